/-- how many bytes an instruction has; 0: a switch -/
def jn_len (i : Instr) : Nat :=
  match i with
  | .bipush _ => 2 | .iload _ => 2 | .lload _ => 2 | .fload _ => 2 | .aload _ => 2 | .istore _ => 2 | .lstore _ => 2 | .fstore _ => 2 | .ldc _ => 2
  | .sipush _ => 3 | .iinc _ _ => 3 | .goto _ => 3 | .if_icmp _ _ => 3 | .ifCond _ _ => 3 | .getfield _ => 3 | .putfield _ => 3 | .getstatic _ => 3 | .invokevirtual _ => 3 | .invokestatic _ => 3 | .ldc_w _ => 3 | .ldc2_w _ => 3
  | .tableswitch _ _ _ _ => 0 | .lookupswitch _ _ => 0
  | _ => 1
def jn_tgt (i : Instr) (pc tg : Nat) : Bool :=
  match i with
  | .goto o => decide ((pc : Int) + o = tg)
  | .if_icmp _ o => decide ((pc : Int) + o = tg)
  | .ifCond _ o => decide ((pc : Int) + o = tg)
  | .bipush n => decide (-128 ≤ n ∧ n < 128)
  | .sipush n => decide (-32768 ≤ n ∧ n < 32768)
  | .tableswitch d lo hi offs => decide (lo ≤ hi ∧ -2147483648 ≤ lo ∧ hi ≤ 2147483647 ∧ 0 ≤ (pc : Int) + d) && offs.toList.all (fun o => decide (0 ≤ (pc : Int) + o))
  | .lookupswitch d ps => (ps.toList.zip (ps.toList.drop 1)).all (fun (a, next) => a.1 < next.1) && decide (0 ≤ (pc : Int) + d) && ps.toList.all (fun o => decide (0 ≤ (pc : Int) + o.2))
  | _ => true
def jn_chk (b : ByteArray) (e : jm_E) : Bool := decide (decode b e.1 = .ok (e.2.1, e.2.2.1 - e.1)) && Nat.blt e.1 e.2.2.1 && (Nat.beq (jn_len e.2.1) 0 || Nat.beq (e.1 + jn_len e.2.1) e.2.2.1) && jn_tgt e.2.1 e.1 e.2.2.2
def jn_okD (x : Nat) : Prop := ((jm_TB x).all (fun l => l.all (jn_chk (jn_y x).2.1))) = true
theorem jn_d0 : jn_okD 0 := by unfold jn_okD; decide +kernel
theorem jn_d1 : jn_okD 1 := by unfold jn_okD; decide +kernel
theorem jn_d2 : jn_okD 2 := by unfold jn_okD; decide +kernel
theorem jn_d3 : jn_okD 3 := by unfold jn_okD; decide +kernel
theorem jn_d4 : jn_okD 4 := by unfold jn_okD; decide +kernel
theorem jn_d5 : jn_okD 5 := by unfold jn_okD; decide +kernel
theorem jn_d6 : jn_okD 6 := by unfold jn_okD; decide +kernel
theorem jn_d7 : jn_okD 7 := by unfold jn_okD; decide +kernel
theorem jn_d8 : jn_okD 8 := by unfold jn_okD; decide +kernel
theorem jn_d9 : jn_okD 9 := by unfold jn_okD; decide +kernel
theorem jn_d10 : jn_okD 10 := by unfold jn_okD; decide +kernel
theorem jn_d11 : jn_okD 11 := by unfold jn_okD; decide +kernel
theorem jn_d12 : jn_okD 12 := by unfold jn_okD; decide +kernel
theorem jn_d13 : jn_okD 13 := by unfold jn_okD; decide +kernel
theorem jn_d14 : jn_okD 14 := by unfold jn_okD; decide +kernel
theorem jn_d15 : jn_okD 15 := by unfold jn_okD; decide +kernel
theorem jn_d16 : jn_okD 16 := by unfold jn_okD; decide +kernel
theorem jn_d17 : jn_okD 17 := by unfold jn_okD; decide +kernel
theorem jn_d18 : jn_okD 18 := by unfold jn_okD; decide +kernel
theorem jn_d19 : jn_okD 19 := by unfold jn_okD; decide +kernel
theorem jn_d20 : jn_okD 20 := by unfold jn_okD; decide +kernel
theorem jn_d21 : jn_okD 21 := by unfold jn_okD; decide +kernel
theorem jn_d22 : jn_okD 22 := by unfold jn_okD; decide +kernel
theorem jn_d23 : jn_okD 23 := by unfold jn_okD; decide +kernel
theorem jn_d24 : jn_okD 24 := by unfold jn_okD; decide +kernel
theorem jn_d25 : jn_okD 25 := by unfold jn_okD; decide +kernel
theorem jn_d26 : jn_okD 26 := by unfold jn_okD; decide +kernel
theorem jn_d27 : jn_okD 27 := by unfold jn_okD; decide +kernel
theorem jn_d28 : jn_okD 28 := by unfold jn_okD; decide +kernel
theorem jn_d29 : jn_okD 29 := by unfold jn_okD; decide +kernel
theorem jn_d30 : jn_okD 30 := by unfold jn_okD; decide +kernel
theorem jn_d31 : jn_okD 31 := by unfold jn_okD; decide +kernel
theorem jn_d32 : jn_okD 32 := by unfold jn_okD; decide +kernel
theorem jn_d33 : jn_okD 33 := by unfold jn_okD; decide +kernel
theorem jn_d34 : jn_okD 34 := by unfold jn_okD; decide +kernel
theorem jn_d35 : jn_okD 35 := by unfold jn_okD; decide +kernel
theorem jn_d36 : jn_okD 36 := by unfold jn_okD; decide +kernel
theorem jn_d37 : jn_okD 37 := by unfold jn_okD; decide +kernel
theorem jn_d38 : jn_okD 38 := by unfold jn_okD; decide +kernel
theorem jn_d39 : jn_okD 39 := by unfold jn_okD; decide +kernel
theorem jn_d40 : jn_okD 40 := by unfold jn_okD; decide +kernel
theorem jn_d41 : jn_okD 41 := by unfold jn_okD; decide +kernel
theorem jn_d42 : jn_okD 42 := by unfold jn_okD; decide +kernel
theorem jn_d43 : jn_okD 43 := by unfold jn_okD; decide +kernel
theorem jn_d44 : jn_okD 44 := by unfold jn_okD; decide +kernel
theorem jn_d45 : jn_okD 45 := by unfold jn_okD; decide +kernel
theorem jn_d46 : jn_okD 46 := by unfold jn_okD; decide +kernel
theorem jn_d47 : jn_okD 47 := by unfold jn_okD; decide +kernel
theorem jn_d48 : jn_okD 48 := by unfold jn_okD; decide +kernel
theorem jn_d49 : jn_okD 49 := by unfold jn_okD; decide +kernel
theorem jn_d50 : jn_okD 50 := by unfold jn_okD; decide +kernel
theorem jn_d51 : jn_okD 51 := by unfold jn_okD; decide +kernel
theorem jn_d52 : jn_okD 52 := by unfold jn_okD; decide +kernel
theorem jn_d53 : jn_okD 53 := by unfold jn_okD; decide +kernel
theorem jn_d54 : jn_okD 54 := by unfold jn_okD; decide +kernel
theorem jn_d55 : jn_okD 55 := by unfold jn_okD; decide +kernel
theorem jn_d56 : jn_okD 56 := by unfold jn_okD; decide +kernel
theorem jn_d57 : jn_okD 57 := by unfold jn_okD; decide +kernel
theorem jn_d58 : jn_okD 58 := by unfold jn_okD; decide +kernel
theorem jn_d59 : jn_okD 59 := by unfold jn_okD; decide +kernel
theorem jn_d60 : jn_okD 60 := by unfold jn_okD; decide +kernel
theorem jn_d61 : jn_okD 61 := by unfold jn_okD; decide +kernel
theorem jn_d62 : jn_okD 62 := by unfold jn_okD; decide +kernel
theorem jn_d63 : jn_okD 63 := by unfold jn_okD; decide +kernel
theorem jn_d64 : jn_okD 64 := by unfold jn_okD; decide +kernel
theorem jn_d65 : jn_okD 65 := by unfold jn_okD; decide +kernel
theorem jn_d66 : jn_okD 66 := by unfold jn_okD; decide +kernel
theorem jn_d67 : jn_okD 67 := by unfold jn_okD; decide +kernel
theorem jn_d68 : jn_okD 68 := by unfold jn_okD; decide +kernel
theorem jn_d69 : jn_okD 69 := by unfold jn_okD; decide +kernel
theorem jn_d70 : jn_okD 70 := by unfold jn_okD; decide +kernel
theorem jn_d71 : jn_okD 71 := by unfold jn_okD; decide +kernel
theorem jn_d72 : jn_okD 72 := by unfold jn_okD; decide +kernel
theorem jn_d73 : jn_okD 73 := by unfold jn_okD; decide +kernel
theorem jn_d74 : jn_okD 74 := by unfold jn_okD; decide +kernel
theorem jn_d75 : jn_okD 75 := by unfold jn_okD; decide +kernel
theorem jn_d76 : jn_okD 76 := by unfold jn_okD; decide +kernel
theorem jn_d77 : jn_okD 77 := by unfold jn_okD; decide +kernel
theorem jn_d78 : jn_okD 78 := by unfold jn_okD; decide +kernel
theorem jn_d79 : jn_okD 79 := by unfold jn_okD; decide +kernel
theorem jn_d80 : jn_okD 80 := by unfold jn_okD; decide +kernel
theorem jn_d81 : jn_okD 81 := by unfold jn_okD; decide +kernel
theorem jn_d82 : jn_okD 82 := by unfold jn_okD; decide +kernel
theorem jn_d83 : jn_okD 83 := by unfold jn_okD; decide +kernel
theorem jn_d84 : jn_okD 84 := by unfold jn_okD; decide +kernel
theorem jn_d85 : jn_okD 85 := by unfold jn_okD; decide +kernel
theorem jn_d86 : jn_okD 86 := by unfold jn_okD; decide +kernel
theorem jn_d87 : jn_okD 87 := by unfold jn_okD; decide +kernel
theorem jn_d88 : jn_okD 88 := by unfold jn_okD; decide +kernel
theorem jn_d89 : jn_okD 89 := by unfold jn_okD; decide +kernel
theorem jn_d90 : jn_okD 90 := by unfold jn_okD; decide +kernel
theorem jn_d91 : jn_okD 91 := by unfold jn_okD; decide +kernel
theorem jn_d92 : jn_okD 92 := by unfold jn_okD; decide +kernel
theorem jn_d93 : jn_okD 93 := by unfold jn_okD; decide +kernel
theorem jn_d94 : jn_okD 94 := by unfold jn_okD; decide +kernel
theorem jn_d95 : jn_okD 95 := by unfold jn_okD; decide +kernel
theorem jn_d96 : jn_okD 96 := by unfold jn_okD; decide +kernel
theorem jn_d97 : jn_okD 97 := by unfold jn_okD; decide +kernel
theorem jn_d98 : jn_okD 98 := by unfold jn_okD; decide +kernel
theorem jn_d99 : jn_okD 99 := by unfold jn_okD; decide +kernel
theorem jn_d100 : jn_okD 100 := by unfold jn_okD; decide +kernel
theorem jn_d101 : jn_okD 101 := by unfold jn_okD; decide +kernel
theorem jn_d102 : jn_okD 102 := by unfold jn_okD; decide +kernel
theorem jn_d103 : jn_okD 103 := by unfold jn_okD; decide +kernel
theorem jn_d104 : jn_okD 104 := by unfold jn_okD; decide +kernel
theorem jn_d105 : jn_okD 105 := by unfold jn_okD; decide +kernel
theorem jn_d106 : jn_okD 106 := by unfold jn_okD; decide +kernel
theorem jn_d107 : jn_okD 107 := by unfold jn_okD; decide +kernel
theorem jn_d108 : jn_okD 108 := by unfold jn_okD; decide +kernel
theorem jn_d109 : jn_okD 109 := by unfold jn_okD; decide +kernel
theorem jn_d110 : jn_okD 110 := by unfold jn_okD; decide +kernel
theorem jn_d111 : jn_okD 111 := by unfold jn_okD; decide +kernel
theorem jn_d112 : jn_okD 112 := by unfold jn_okD; decide +kernel
theorem jn_d113 : jn_okD 113 := by unfold jn_okD; decide +kernel
theorem jn_d114 : jn_okD 114 := by unfold jn_okD; decide +kernel
theorem jn_d115 : jn_okD 115 := by unfold jn_okD; decide +kernel
theorem jn_d116 : jn_okD 116 := by unfold jn_okD; decide +kernel
theorem jn_d117 : jn_okD 117 := by unfold jn_okD; decide +kernel
theorem jn_d118 : jn_okD 118 := by unfold jn_okD; decide +kernel
theorem jn_d119 : jn_okD 119 := by unfold jn_okD; decide +kernel
theorem jn_d120 : jn_okD 120 := by unfold jn_okD; decide +kernel
theorem jn_d121 : jn_okD 121 := by unfold jn_okD; decide +kernel
theorem jn_d122 : jn_okD 122 := by unfold jn_okD; decide +kernel
theorem jn_d123 : jn_okD 123 := by unfold jn_okD; decide +kernel
theorem jn_d124 : jn_okD 124 := by unfold jn_okD; decide +kernel
theorem jn_d125 : jn_okD 125 := by unfold jn_okD; decide +kernel
theorem jn_d126 : jn_okD 126 := by unfold jn_okD; decide +kernel
theorem jn_d127 : jn_okD 127 := by unfold jn_okD; decide +kernel
theorem jn_d128 : jn_okD 128 := by unfold jn_okD; decide +kernel
theorem jn_d129 : jn_okD 129 := by unfold jn_okD; decide +kernel
theorem jn_d130 : jn_okD 130 := by unfold jn_okD; decide +kernel
theorem jn_d131 : jn_okD 131 := by unfold jn_okD; decide +kernel
theorem jn_d132 : jn_okD 132 := by unfold jn_okD; decide +kernel
theorem jn_d133 : jn_okD 133 := by unfold jn_okD; decide +kernel
theorem jn_d134 : jn_okD 134 := by unfold jn_okD; decide +kernel
theorem jn_d135 : jn_okD 135 := by unfold jn_okD; decide +kernel
theorem jn_d136 : jn_okD 136 := by unfold jn_okD; decide +kernel
theorem jn_d137 : jn_okD 137 := by unfold jn_okD; decide +kernel
theorem jn_d138 : jn_okD 138 := by unfold jn_okD; decide +kernel
theorem jn_d139 : jn_okD 139 := by unfold jn_okD; decide +kernel
theorem jn_d140 : jn_okD 140 := by unfold jn_okD; decide +kernel
theorem jn_d141 : jn_okD 141 := by unfold jn_okD; decide +kernel
theorem jn_d142 : jn_okD 142 := by unfold jn_okD; decide +kernel
theorem jn_d143 : jn_okD 143 := by unfold jn_okD; decide +kernel
theorem jn_d144 : jn_okD 144 := by unfold jn_okD; decide +kernel
theorem jn_d145 : jn_okD 145 := by unfold jn_okD; decide +kernel
theorem jn_d146 : jn_okD 146 := by unfold jn_okD; decide +kernel
theorem jn_d147 : jn_okD 147 := by unfold jn_okD; decide +kernel
theorem jn_d148 : jn_okD 148 := by unfold jn_okD; decide +kernel
theorem jn_d149 : jn_okD 149 := by unfold jn_okD; decide +kernel
theorem jn_d150 : jn_okD 150 := by unfold jn_okD; decide +kernel
theorem jn_d151 : jn_okD 151 := by unfold jn_okD; decide +kernel
theorem jn_d152 : jn_okD 152 := by unfold jn_okD; decide +kernel
theorem jn_d153 : jn_okD 153 := by unfold jn_okD; decide +kernel
theorem jn_d154 : jn_okD 154 := by unfold jn_okD; decide +kernel
theorem jn_d155 : jn_okD 155 := by unfold jn_okD; decide +kernel
theorem jn_d156 : jn_okD 156 := by unfold jn_okD; decide +kernel
theorem jn_d157 : jn_okD 157 := by unfold jn_okD; decide +kernel
theorem jn_d158 : jn_okD 158 := by unfold jn_okD; decide +kernel
theorem jn_d159 : jn_okD 159 := by unfold jn_okD; decide +kernel
theorem jn_d160 : jn_okD 160 := by unfold jn_okD; decide +kernel
theorem jn_d161 : jn_okD 161 := by unfold jn_okD; decide +kernel
theorem jn_d162 : jn_okD 162 := by unfold jn_okD; decide +kernel
theorem jn_d163 : jn_okD 163 := by unfold jn_okD; decide +kernel
theorem jn_d164 : jn_okD 164 := by unfold jn_okD; decide +kernel
theorem jn_d165 : jn_okD 165 := by unfold jn_okD; decide +kernel
theorem jn_d166 : jn_okD 166 := by unfold jn_okD; decide +kernel
theorem jn_d167 : jn_okD 167 := by unfold jn_okD; decide +kernel
theorem jn_d168 : jn_okD 168 := by unfold jn_okD; decide +kernel
theorem jn_d169 : jn_okD 169 := by unfold jn_okD; decide +kernel
theorem jn_d170 : jn_okD 170 := by unfold jn_okD; decide +kernel
theorem jn_d171 : jn_okD 171 := by unfold jn_okD; decide +kernel
theorem jn_d172 : jn_okD 172 := by unfold jn_okD; decide +kernel
theorem jn_d173 : jn_okD 173 := by unfold jn_okD; decide +kernel
theorem jn_d174 : jn_okD 174 := by unfold jn_okD; decide +kernel
theorem jn_d175 : jn_okD 175 := by unfold jn_okD; decide +kernel
theorem jn_d176 : jn_okD 176 := by unfold jn_okD; decide +kernel
theorem jn_d177 : jn_okD 177 := by unfold jn_okD; decide +kernel
theorem jn_d178 : jn_okD 178 := by unfold jn_okD; decide +kernel
theorem jn_d179 : jn_okD 179 := by unfold jn_okD; decide +kernel
theorem jn_d180 : jn_okD 180 := by unfold jn_okD; decide +kernel
theorem jn_d181 : jn_okD 181 := by unfold jn_okD; decide +kernel
theorem jn_d182 : jn_okD 182 := by unfold jn_okD; decide +kernel
theorem jn_d183 : jn_okD 183 := by unfold jn_okD; decide +kernel
theorem jn_d184 : jn_okD 184 := by unfold jn_okD; decide +kernel
theorem jn_d185 : jn_okD 185 := by unfold jn_okD; decide +kernel
theorem jn_d186 : jn_okD 186 := by unfold jn_okD; decide +kernel
theorem jn_d187 : jn_okD 187 := by unfold jn_okD; decide +kernel
theorem jn_d188 : jn_okD 188 := by unfold jn_okD; decide +kernel
theorem jn_d189 : jn_okD 189 := by unfold jn_okD; decide +kernel
theorem jn_d190 : jn_okD 190 := by unfold jn_okD; decide +kernel
theorem jn_d191 : jn_okD 191 := by unfold jn_okD; decide +kernel
theorem jn_d192 : jn_okD 192 := by unfold jn_okD; decide +kernel
theorem jn_d193 : jn_okD 193 := by unfold jn_okD; decide +kernel
theorem jn_d194 : jn_okD 194 := by unfold jn_okD; decide +kernel
theorem jn_d195 : jn_okD 195 := by unfold jn_okD; decide +kernel
theorem jn_d196 : jn_okD 196 := by unfold jn_okD; decide +kernel
theorem jn_d197 : jn_okD 197 := by unfold jn_okD; decide +kernel
theorem jn_d198 : jn_okD 198 := by unfold jn_okD; decide +kernel
theorem jn_d199 : jn_okD 199 := by unfold jn_okD; decide +kernel
theorem jn_d200 : jn_okD 200 := by unfold jn_okD; decide +kernel
theorem jn_d201 : jn_okD 201 := by unfold jn_okD; decide +kernel
theorem jn_d202 : jn_okD 202 := by unfold jn_okD; decide +kernel
theorem jn_d203 : jn_okD 203 := by unfold jn_okD; decide +kernel
theorem jn_d204 : jn_okD 204 := by unfold jn_okD; decide +kernel
theorem jn_d205 : jn_okD 205 := by unfold jn_okD; decide +kernel
theorem jn_d206 : jn_okD 206 := by unfold jn_okD; decide +kernel
theorem jn_d207 : jn_okD 207 := by unfold jn_okD; decide +kernel
theorem jn_d208 : jn_okD 208 := by unfold jn_okD; decide +kernel
theorem jn_d209 : jn_okD 209 := by unfold jn_okD; decide +kernel
theorem jn_d210 : jn_okD 210 := by unfold jn_okD; decide +kernel
theorem jn_d211 : jn_okD 211 := by unfold jn_okD; decide +kernel
theorem jn_d212 : jn_okD 212 := by unfold jn_okD; decide +kernel
theorem jn_d213 : jn_okD 213 := by unfold jn_okD; decide +kernel
theorem jn_d214 : jn_okD 214 := by unfold jn_okD; decide +kernel
theorem jn_d215 : jn_okD 215 := by unfold jn_okD; decide +kernel
theorem jn_d216 : jn_okD 216 := by unfold jn_okD; decide +kernel
theorem jn_d218 : jn_okD 218 := by unfold jn_okD; decide +kernel
theorem jn_d219 : jn_okD 219 := by unfold jn_okD; decide +kernel
theorem jn_du0 : jmu_0.all (jn_chk code) = true := by decide +kernel
theorem jn_du1 : jmu_1.all (jn_chk code) = true := by decide +kernel
theorem jn_du2 : jmu_2.all (jn_chk code) = true := by decide +kernel
theorem jn_du3 : jmu_3.all (jn_chk code) = true := by decide +kernel
theorem jn_du4 : jmu_4.all (jn_chk code) = true := by decide +kernel
theorem jn_du5 : jmu_5.all (jn_chk code) = true := by decide +kernel
theorem jn_du6 : jmu_6.all (jn_chk code) = true := by decide +kernel
theorem jn_du7 : jmu_7.all (jn_chk code) = true := by decide +kernel
theorem jn_du8 : jmu_8.all (jn_chk code) = true := by decide +kernel
theorem jn_du9 : jmu_9.all (jn_chk code) = true := by decide +kernel
theorem jn_du10 : jmu_10.all (jn_chk code) = true := by decide +kernel
theorem jn_du11 : jmu_11.all (jn_chk code) = true := by decide +kernel
theorem jn_du12 : jmu_12.all (jn_chk code) = true := by decide +kernel
theorem jn_du13 : jmu_13.all (jn_chk code) = true := by decide +kernel
theorem jn_du14 : jmu_14.all (jn_chk code) = true := by decide +kernel
theorem jn_du15 : jmu_15.all (jn_chk code) = true := by decide +kernel
theorem jn_du16 : jmu_16.all (jn_chk code) = true := by decide +kernel
theorem jn_du17 : jmu_17.all (jn_chk code) = true := by decide +kernel
theorem jn_du18 : jmu_18.all (jn_chk code) = true := by decide +kernel
theorem jn_du19 : jmu_19.all (jn_chk code) = true := by decide +kernel
theorem jn_du20 : jmu_20.all (jn_chk code) = true := by decide +kernel
theorem jn_du21 : jmu_21.all (jn_chk code) = true := by decide +kernel
theorem jn_du22 : jmu_22.all (jn_chk code) = true := by decide +kernel
theorem jn_du23 : jmu_23.all (jn_chk code) = true := by decide +kernel
theorem jn_du24 : jmu_24.all (jn_chk code) = true := by decide +kernel
theorem jn_du25 : jmu_25.all (jn_chk code) = true := by decide +kernel
theorem jn_d217 : jn_okD 217 := by
  show List.all [jmu_0, jmu_1, jmu_2, jmu_3, jmu_4, jmu_5, jmu_6, jmu_7, jmu_8, jmu_9, jmu_10, jmu_11, jmu_12, jmu_13, jmu_14, jmu_15, jmu_16, jmu_17, jmu_18, jmu_19, jmu_20, jmu_21, jmu_22, jmu_23, jmu_24, jmu_25] (fun l => l.all (jn_chk code)) = true
  simp only [List.all_cons, List.all_nil, jn_du0, jn_du1, jn_du2, jn_du3, jn_du4, jn_du5, jn_du6, jn_du7, jn_du8, jn_du9, jn_du10, jn_du11, jn_du12, jn_du13, jn_du14, jn_du15, jn_du16, jn_du17, jn_du18, jn_du19, jn_du20, jn_du21, jn_du22, jn_du23, jn_du24, jn_du25, Bool.and_true]
