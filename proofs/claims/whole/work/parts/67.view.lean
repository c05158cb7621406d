/-! an outline, as a way round with penalties -/
def jPP (K : Int → Int → Int) (q : List jT) (i j : Int) : Int := if i = j then -1 else jpb q.length (jpx q) (jpy q) (jpl_ K q) (jpm K q) i j
theorem jOq {K : Int → Int → Int} (hK : jK5 K) {O : List (List jT)} (hI : jInv K O) {i : Nat} {q : List jT} (hq : O[i]? = some q) : ∃ s, jE K s ∧ q = jorb K s := hI.1 q (List.mem_of_getElem? hq)
theorem jOs {K : Int → Int → Int} (hK : jK5 K) {O : List (List jT)} (hI : jInv K O) {i : Nat} {q : List jT} (hq : O[i]? = some q) : (O.take i).flatten.length + q.length ≤ 60 ∧ i < O.length ∧ O.length ≤ 15 := by
  have a := jfl_take hq
  have b := jfl_all (O := O) (i + 1)
  have c := jInv_60 hK hI
  rw [a, List.length_append] at b
  exact ⟨by omega, (List.getElem?_eq_some_iff.mp hq).1, jInv_15 hK hI⟩
theorem jOw {K : Int → Int → Int} (hK : jK5 K) {O : List (List jT)} (hI : jInv K O) {i : Nat} {q : List jT} (hq : O[i]? = some q) : jWy q.length (jpx q) (jpy q) (jpl_ K q) (jpm K q) := by
  obtain ⟨s, hs, e⟩ := jOq hK hI hq
  have l4 := jper_4 hK hs
  have l := jOs hK hI hq
  have el : q.length = jper K s := by rw [e, jorb_len]
  refine ⟨by omega, by omega, fun n n0 n1 => ?_⟩
  have b := jE_pt hK (jPt_E hI hq n0 n1)
  refine ⟨⟨b.1, b.2.1⟩, ⟨b.2.2.1, b.2.2.2.1⟩, jle_r _ _ _, ?_⟩
  unfold jpm jmu
  generalize (jtch K (jpx q n) (jpy q n) 2 || _) = w
  cases w
  · exact Or.inl rfl
  · exact Or.inr rfl
theorem jnb {K : Int → Int → Int} (hK : jK5 K) {O : List (List jT)} (hI : jInv K O) {i : Nat} {q : List jT} (hq : O[i]? = some q) {n m : Int} (n0 : 0 ≤ n) (n1 : n < q.length) (hm : m = (n + 1) % q.length) : jspan (jpx q) (jpy q) n m ≠ 0 := by
  have b := jE_pt hK (jPt_E hI hq n0 n1)
  obtain ⟨s, hs, e⟩ := jOq hK hI hq
  have c := jorb_on hK hs (n := n) n0 (by rw [← e]; exact n1)
  rw [← e, ← hm] at c
  unfold jspan jpx jpy
  rw [c]
  unfold jnx jsx jsy
  generalize jPt q n = t at *
  dsimp only
  repeat' split
  all_goals omega
theorem jcan_1 {N : Int} {X Y L M : Int → Int} {i j : Int} (h : jspan X Y i j ≠ 0) (e : jstp2 N i j = 1) : jcan N X Y L M i j = true := by
  unfold jcan
  rw [e, decide_eq_true h]
  rfl
theorem jpb_n {N : Int} {X Y L M : Int → Int} (hW : jWy N X Y L M) {i j : Int} (i0 : 0 ≤ i) (i1 : i < N) (j0 : 0 ≤ j) (j1 : j < N) (hij : i ≠ j) : (jcan N X Y L M i j = true → 0 ≤ jpb N X Y L M i j ∧ jfn 145 (jpb N X Y L M i j)) ∧ (jcan N X Y L M i j = false → jpb N X Y L M i j = -1) := by
  unfold jpb
  refine ⟨fun h => ?_, fun h => ?_⟩
  · rw [if_pos h]
    have hcn := h
    unfold jcan at hcn
    rw [Bool.and_eq_true, decide_eq_true_eq] at hcn
    obtain ⟨hsp, hcs⟩ := hcn
    have sq := jsqd_r hW i0 i1 j0 j1
    have hsl : 1 ≤ jstp2 N i j ∧ jstp2 N i j < N := by unfold jstp2; split <;> omega
    have sl := jss_le hW i0 i1 j0 j1 (jstp2 N i j - 1).toNat (by omega) hcs
    have hN := hW.2.1
    have a := (jfrac_n (a := jss N X Y i j (jstp2 N i j - 1).toNat) (b := jsqd X Y i j) (by omega) (by omega) (by have := sq.2.2.1 hsp; omega) (by omega)).1
    exact ⟨by unfold jfn at a; omega, a⟩
  · rw [if_neg (by rw [h]; decide)]
theorem jOP {K : Int → Int → Int} (hK : jK5 K) {O : List (List jT)} (hI : jInv K O) {i : Nat} {q : List jT} (hq : O[i]? = some q) : jPw q.length (jPP K q) := by
  have hW := jOw hK hI hq
  have key : ∀ n m : Int, 0 ≤ n → n < q.length → m = (n + 1) % q.length → 0 ≤ m → m < q.length → n ≠ m → jstp2 q.length n m = 1 → jPP K q n m ≠ -1 := by
    intro n m n0 n1 hm m0 m1 hnm e
    unfold jPP
    rw [if_neg hnm]
    have := (jpb_n hW n0 n1 m0 m1 hnm).1 (jcan_1 (jnb hK hI hq n0 n1 hm) e)
    omega
  have h4 := hW.1
  refine ⟨hW.1, hW.2.1, fun n m n0 n1 m0 m1 => ?_, fun n => ?_, fun n n0 n1 => ?_, ?_⟩
  · unfold jPP
    split
    · exact Or.inl rfl
    · rename_i h
      have a := jpb_n hW n0 n1 m0 m1 h
      rcases Bool.eq_false_or_eq_true (jcan q.length (jpx q) (jpy q) (jpl_ K q) (jpm K q) n m) with c | c
      · exact Or.inr (a.1 c)
      · exact Or.inl (a.2 c)
  · unfold jPP; rw [if_pos rfl]
  · refine key n (n + 1) n0 (by omega) (Int.emod_eq_of_lt (by omega) n1).symm (by omega) n1 (by omega) ?_
    unfold jstp2; split <;> omega
  · refine key ((q.length : Int) - 1) 0 (by omega) (by omega) ?_ (by omega) (by omega) (by omega) ?_
    · rw [show (q.length : Int) - 1 + 1 = q.length by omega, Int.emod_self]
    · unfold jstp2; split <;> omega
theorem jPP_ne {K : Int → Int → Int} {q : List jT} (hW : jWy q.length (jpx q) (jpy q) (jpl_ K q) (jpm K q)) {i j : Int} (i0 : 0 ≤ i) (i1 : i < q.length) (j0 : 0 ≤ j) (j1 : j < q.length) (hij : i ≠ j) : jPP K q i j ≠ -1 ↔ jcan q.length (jpx q) (jpy q) (jpl_ K q) (jpm K q) i j = true := by
  unfold jPP
  rw [if_neg hij]
  have a := jpb_n hW i0 i1 j0 j1 hij
  rcases Bool.eq_false_or_eq_true (jcan q.length (jpx q) (jpy q) (jpl_ K q) (jpm K q) i j) with c | c
  · have := a.1 c
    exact ⟨fun _ => c, fun _ => by omega⟩
  · rw [c, a.2 c]
    exact ⟨fun z => absurd rfl z, fun z => by cases z⟩
theorem jVm_of {h : jm_H} {K : Int → Int → Int} (hK : jK5 K) {O : List (List jT)} (hI : jInv K O) (hF : jMF h O.flatten) (hO : jMO h K O) {i : Nat} {q : List jT} (hq : O[i]? = some q) : jVm h i ((O.take i).flatten.length : Int) q.length (jpx q) (jpy q) (jpl_ K q) (jpm K q) := by
  have l := jOs hK hI hq
  obtain ⟨a, b, c⟩ := hO.2 i q hq
  refine ⟨a, b, by omega, by omega, ⟨by omega, by omega⟩, fun n n0 n1 => ?_⟩
  have d := jMF_pt hK hI hF hq n n0 n1
  have e := c n n0 n1
  exact ⟨d.1, d.2.1, e.1, e.2⟩
theorem jVo_of_20 {h : jm_H} {K : Int → Int → Int} (hK : jK5 K) {O : List (List jT)} (hI : jInv K O) (hO : jCO_20 h K O) {i : Nat} {q : List jT} (hq : O[i]? = some q) : jVo_20 h i ((O.take i).flatten.length : Int) q.length (jpx q) (jpy q) (jpl_ K q) (jpm K q) := by
  have l := jOs hK hI hq
  obtain ⟨a, b, _, c⟩ := hO.2 i q hq
  have e := hO.1
  exact ⟨a, b, by omega, by omega, ⟨by omega, by omega, by omega⟩, c⟩
theorem jVo_of_43 {h : jm_H} {K : Int → Int → Int} (hK : jK5 K) {O : List (List jT)} (hI : jInv K O) (hO : jCO_43 h K O) {i : Nat} {q : List jT} (hq : O[i]? = some q) : jVo_43 h i ((O.take i).flatten.length : Int) q.length (jpx q) (jpy q) (jpl_ K q) (jpm K q) := by
  have l := jOs hK hI hq
  obtain ⟨a, b, _, c⟩ := hO.2 i q hq
  have e := hO.1
  exact ⟨a, b, by omega, by omega, ⟨by omega, by omega, by omega⟩, c⟩
