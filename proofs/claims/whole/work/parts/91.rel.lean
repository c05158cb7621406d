/-! the class and the model side by side -/
theorem jFr.q {hp h : jm_H} {S : List Nat} (hf : jFr hp h S) : jFq hp h S [] := fun q hq j _ => congrFun (hf q hq) j
theorem jFq.r {hp h : jm_H} {S : List Nat} (hf : jFq hp h S []) : jFr hp h S := fun q hq => funext fun j => hf q hq j (fun _ => by simp)
def jRP (h : jm_H) : Prop := jPg (h 1 1) (h 2) ∧ h 56 1 = h 1 1 ∧ ∀ j, 0 ≤ j → j < h 1 1 → h 57 j = h 2 j
def jRD (h : jm_H) : Prop := jG h 3 4 ∧ h 56 6 = h 3 1 ∧ h 56 7 = h 3 2 ∧ (∀ j, 0 ≤ j → j < h 3 1 * h 3 2 → h 58 j = h 4 j) ∧ (h 3 1 = 0 ↔ h 3 2 = 0) ∧ (h 3 1 ≠ 0 → 0 < jcnt (h 4) (h 3 1 * h 3 2).toNat)
def jRC (n : Int) (h : jm_H) : Prop := (0 ≤ h 0 13 ∧ h 0 13 ≤ n) ∧ h 56 8 = h 0 13 ∧ (h 0 13 = 0 ↔ h 3 1 = 0) ∧ (0 ≤ h 0 14 ∧ h 0 14 ≤ 5) ∧ h 56 29 = h 0 14
def jsee (h : jm_H) (o a b c s : Nat) (f : Int) : Prop := h 56 f = h o 3 ∧ ∀ n, 0 ≤ n → n < h o 3 → h s (3 * n) = h a n ∧ h s (3 * n + 1) = h b n ∧ h s (3 * n + 2) = h c n
def jRS (h : jm_H) : Prop := jSn h 9 10 11 12 ∧ jsee h 9 10 11 12 75 30
def jRR (h : jm_H) : Prop := jRk h ∧ ∀ a b, 0 ≤ a → a < 5 → 0 ≤ b → b < 3 → h 74 (3 * a + b) = (if b < h 19 a then h 18 (a * 3 + b) else -1) ∧ (b < h 19 a → 0 ≤ h 18 (a * 3 + b) ∧ h 18 (a * 3 + b) < 25)
def jRK (h : jm_H) : Prop := (h 0 12 = 0 ∨ h 0 12 = 1) ∧ jSn h 13 14 15 16 ∧ jG h 7 8 ∧ (-1 ≤ h 56 33 ∧ h 56 33 ≤ h 0 13) ∧ (h 0 12 = 1 ↔ h 56 33 = h 0 13) ∧ (h 0 12 = 1 → (h 0 13 ≠ 0 ∧ h 7 1 ≠ 0 ∧ h 7 2 ≠ 0 ∧ 0 < jcnt (h 8) (h 7 1 * h 7 2).toNat) ∧ h 56 34 = h 7 1 ∧ h 56 35 = h 7 2 ∧ (∀ j, 0 ≤ j → j < h 7 1 * h 7 2 → h 76 j = h 8 j) ∧ (∀ j, 0 ≤ j → j < 25 → -1 ≤ h 76 j ∧ h 76 j ≤ 4) ∧ jsee h 13 14 15 16 77 36)
def jR5 (h : jm_H) : Prop := jG h 5 6
def jRL (h : jm_H) : Prop := jCl h (jK0 h) (jO0 h)
def jRX (xs ls : Int → Int) (h : jm_H) : Prop := h 82 = xs ∧ h 85 = ls
def jREL (xs ls : Int → Int) (n : Int) (h : jm_H) : Prop := jRP h ∧ jRD h ∧ jRC n h ∧ jRS h ∧ jRR h ∧ jRK h ∧ jR5 h ∧ jRL h ∧ jMC h ∧ jRX xs ls h
def jSam (y : Nat) (vs : List jm_V) (xs ls : Int → Int) (n : Int) : Option jm_V → jm_H → Prop := fun rv h1 => ∃ v, rv = some (jI v) ∧ jR32 v ∧ jRX xs ls h1 ∧ jm_Ev y 0 (jm_en y vs) [] h1 (fun rv2 h2 => rv2 = some (jI v) ∧ jREL xs ls (n + 1) h2)
theorem jRP_fr {hp h : jm_H} {S : List Nat} {F : List Int} (H : jRP hp) (hf : jFq hp h S F) (hS : ∀ q ∈ [1, 2, 57, 56], q ∉ S) (hF : ∀ j ∈ [(1 : Int)], j ∉ F) : jRP h := by
  have e1 : h 1 = hp 1 := hf.pl 1 (hS 1 (by simp)) (by omega)
  have e2 : h 2 = hp 2 := hf.pl 2 (hS 2 (by simp)) (by omega)
  have e57 : h 57 = hp 57 := hf.pl 57 (hS 57 (by simp)) (by omega)
  have f1 : h 56 1 = hp 56 1 := hf.fd 1 (hS 56 (by simp)) (hF 1 (by simp))
  unfold jRP  at *
  simp only [e1, e2, e57, f1]
  exact H
theorem jRD_fr {hp h : jm_H} {S : List Nat} {F : List Int} (H : jRD hp) (hf : jFq hp h S F) (hS : ∀ q ∈ [3, 4, 58, 56], q ∉ S) (hF : ∀ j ∈ [(6 : Int), (7 : Int)], j ∉ F) : jRD h := by
  have e3 : h 3 = hp 3 := hf.pl 3 (hS 3 (by simp)) (by omega)
  have e4 : h 4 = hp 4 := hf.pl 4 (hS 4 (by simp)) (by omega)
  have e58 : h 58 = hp 58 := hf.pl 58 (hS 58 (by simp)) (by omega)
  have f6 : h 56 6 = hp 56 6 := hf.fd 6 (hS 56 (by simp)) (hF 6 (by simp))
  have f7 : h 56 7 = hp 56 7 := hf.fd 7 (hS 56 (by simp)) (hF 7 (by simp))
  unfold jRD jG at *
  simp only [e3, e4, e58, f6, f7]
  exact H
theorem jRC_fr {hp h : jm_H} {S : List Nat} {F : List Int} {n m : Int} (hnm : n ≤ m) (H : jRC n hp) (hf : jFq hp h S F) (hS : ∀ q ∈ [0, 3, 56], q ∉ S) (hF : ∀ j ∈ [(8 : Int), (29 : Int)], j ∉ F) : jRC m h := by
  have e0 : h 0 = hp 0 := hf.pl 0 (hS 0 (by simp)) (by omega)
  have e3 : h 3 = hp 3 := hf.pl 3 (hS 3 (by simp)) (by omega)
  have f8 : h 56 8 = hp 56 8 := hf.fd 8 (hS 56 (by simp)) (hF 8 (by simp))
  have f29 : h 56 29 = hp 56 29 := hf.fd 29 (hS 56 (by simp)) (hF 29 (by simp))
  unfold jRC at *
  simp only [e0, e3, f8, f29]
  exact ⟨⟨H.1.1, by have := H.1.2; omega⟩, H.2⟩
theorem jRS_fr {hp h : jm_H} {S : List Nat} {F : List Int} (H : jRS hp) (hf : jFq hp h S F) (hS : ∀ q ∈ [9, 10, 11, 12, 75, 56], q ∉ S) (hF : ∀ j ∈ [(30 : Int)], j ∉ F) : jRS h := by
  have e9 : h 9 = hp 9 := hf.pl 9 (hS 9 (by simp)) (by omega)
  have e10 : h 10 = hp 10 := hf.pl 10 (hS 10 (by simp)) (by omega)
  have e11 : h 11 = hp 11 := hf.pl 11 (hS 11 (by simp)) (by omega)
  have e12 : h 12 = hp 12 := hf.pl 12 (hS 12 (by simp)) (by omega)
  have e75 : h 75 = hp 75 := hf.pl 75 (hS 75 (by simp)) (by omega)
  have f30 : h 56 30 = hp 56 30 := hf.fd 30 (hS 56 (by simp)) (hF 30 (by simp))
  unfold jRS jSn jsee at *
  simp only [e9, e10, e11, e12, e75, f30]
  exact H
theorem jRR_fr {hp h : jm_H} {S : List Nat} {F : List Int} (H : jRR hp) (hf : jFq hp h S F) (hS : ∀ q ∈ [18, 19, 74], q ∉ S) : jRR h := by
  have e18 : h 18 = hp 18 := hf.pl 18 (hS 18 (by simp)) (by omega)
  have e19 : h 19 = hp 19 := hf.pl 19 (hS 19 (by simp)) (by omega)
  have e74 : h 74 = hp 74 := hf.pl 74 (hS 74 (by simp)) (by omega)
  unfold jRR jRk at *
  simp only [e18, e19, e74]
  exact H
theorem jRK_fr {hp h : jm_H} {S : List Nat} {F : List Int} (H : jRK hp) (hf : jFq hp h S F) (hS : ∀ q ∈ [0, 7, 8, 13, 14, 15, 16, 76, 77, 56], q ∉ S) (hF : ∀ j ∈ [(33 : Int), (34 : Int), (35 : Int), (36 : Int)], j ∉ F) : jRK h := by
  have e0 : h 0 = hp 0 := hf.pl 0 (hS 0 (by simp)) (by omega)
  have e7 : h 7 = hp 7 := hf.pl 7 (hS 7 (by simp)) (by omega)
  have e8 : h 8 = hp 8 := hf.pl 8 (hS 8 (by simp)) (by omega)
  have e13 : h 13 = hp 13 := hf.pl 13 (hS 13 (by simp)) (by omega)
  have e14 : h 14 = hp 14 := hf.pl 14 (hS 14 (by simp)) (by omega)
  have e15 : h 15 = hp 15 := hf.pl 15 (hS 15 (by simp)) (by omega)
  have e16 : h 16 = hp 16 := hf.pl 16 (hS 16 (by simp)) (by omega)
  have e76 : h 76 = hp 76 := hf.pl 76 (hS 76 (by simp)) (by omega)
  have e77 : h 77 = hp 77 := hf.pl 77 (hS 77 (by simp)) (by omega)
  have f33 : h 56 33 = hp 56 33 := hf.fd 33 (hS 56 (by simp)) (hF 33 (by simp))
  have f34 : h 56 34 = hp 56 34 := hf.fd 34 (hS 56 (by simp)) (hF 34 (by simp))
  have f35 : h 56 35 = hp 56 35 := hf.fd 35 (hS 56 (by simp)) (hF 35 (by simp))
  have f36 : h 56 36 = hp 56 36 := hf.fd 36 (hS 56 (by simp)) (hF 36 (by simp))
  unfold jRK jSn jsee jG at *
  simp only [e0, e7, e8, e13, e14, e15, e16, e76, e77, f33, f34, f35, f36]
  exact H
theorem jR5_fr {hp h : jm_H} {S : List Nat} {F : List Int} (H : jR5 hp) (hf : jFq hp h S F) (hS : ∀ q ∈ [5, 6], q ∉ S) : jR5 h := by
  have e5 : h 5 = hp 5 := hf.pl 5 (hS 5 (by simp)) (by omega)
  have e6 : h 6 = hp 6 := hf.pl 6 (hS 6 (by simp)) (by omega)
  unfold jR5 jG at *
  simp only [e5, e6]
  exact H
theorem jRX_fr {hp h : jm_H} {S : List Nat} {F : List Int} {xs ls : Int → Int} (H : jRX xs ls hp) (hf : jFq hp h S F) (hS : ∀ q ∈ [82, 85], q ∉ S) : jRX xs ls h := by
  have e82 : h 82 = hp 82 := hf.pl 82 (hS 82 (by simp)) (by omega)
  have e85 : h 85 = hp 85 := hf.pl 85 (hS 85 (by simp)) (by omega)
  unfold jRX  at *
  simp only [e82, e85]
  exact H
theorem jCa_fr {hp h : jm_H} {K : Int → Int → Int} {O : List (List jT)} (hc : jCa hp K O) (e : ∀ q, 31 ≤ q → q ≤ 42 → h q = hp q) : jCa h K O := by
  unfold jCa jFl jSv at *
  rw [e 31 (by omega) (by omega), e 32 (by omega) (by omega), e 34 (by omega) (by omega), e 35 (by omega) (by omega), e 36 (by omega) (by omega), e 37 (by omega) (by omega), e 38 (by omega) (by omega), e 39 (by omega) (by omega)]
  exact hc
theorem jK0_fr {hp h : jm_H} {S : List Nat} {F : List Int} (hf : jFq hp h S F) (h3 : 3 ∉ S) (h4 : 4 ∉ S) : jK0 h = jK0 hp ∧ jO0 h = jO0 hp := by
  have e : jK0 h = jK0 hp := by unfold jK0; rw [hf.pl 3 h3 (by omega), hf.pl 4 h4 (by omega)]
  exact ⟨e, by unfold jO0; rw [e]⟩
theorem jRL_fr {hp h : jm_H} {S : List Nat} {F : List Int} (H : jRL hp) (hf : jFq hp h S F) (hS : ∀ q, (q = 3 ∨ q = 4 ∨ (20 ≤ q ∧ q ≤ 42)) → q ∉ S) : jRL h := by
  have k := jK0_fr hf (hS 3 (by omega)) (hS 4 (by omega))
  unfold jRL at *
  rw [k.1, k.2]
  exact ⟨H.1, H.2.1, jCO_fr H.2.2.1 (fun q a b => hf.pl q (hS q (by omega)) (by omega)), jCa_fr H.2.2.2 (fun q a b => hf.pl q (hS q (by omega)) (by omega))⟩
/-- the class's caches were changed alone -/
theorem jRL_c {hp h : jm_H} {S : List Nat} {F : List Int} (H : jCl h (jK0 hp) (jO0 hp)) (hf : jFq hp h S F) (h3 : 3 ∉ S) (h4 : 4 ∉ S) : jRL h := by
  have k := jK0_fr hf h3 h4
  unfold jRL
  rw [k.1, k.2]
  exact H
theorem jMC_fr {hp h : jm_H} {S : List Nat} {F : List Int} (H : jMC hp) (hf : jFq hp h S F) (hS : ∀ q, (q = 56 ∨ q = 58 ∨ (59 ≤ q ∧ q ≤ 72)) → q ∉ S) (hF : ∀ j ∈ [(6 : Int), 7, 10, 11], j ∉ F) : jMC h := by
  have k := jmK_fr hf (hS 58 (by omega)) (hS 56 (by omega)) (hF 6 (by simp)) (hF 7 (by simp))
  have f10 : h 56 10 = hp 56 10 := hf.fd 10 (hS 56 (by omega)) (hF 10 (by simp))
  refine ⟨jMG_fr H.1 hf (hS 58 (by omega)) (hS 56 (by omega)) (hF 6 (by simp)) (hF 7 (by simp)), by rw [f10]; exact H.2.1, fun z => ?_⟩
  rw [k.1, k.2]
  exact jML_fr (H.2.2 (by rw [← f10]; exact z)) (hf.fd 11 (hS 56 (by omega)) (hF 11 (by simp))) (fun q a b => hf.pl q (hS q (by omega)) (by omega))
theorem jKm {h : jm_H} (H : jRD h) : jmK h = jK0 h ∧ jmO h = jO0 h := by
  have e : jmK h = jK0 h := by
    unfold jmK jK0
    rw [H.2.1, H.2.2.1]
    exact jgk_cg H.2.2.2.1
  exact ⟨e, by unfold jmO jO0; rw [e]⟩
theorem jcnt_cg {d e : Int → Int} (n : Nat) (h : ∀ j : Int, 0 ≤ j → j < n → d j = e j) : jcnt d n = jcnt e n := by
  induction n with
  | zero => rfl
  | succ n ih =>
    unfold jcnt
    rw [ih (fun j a b => h j a (by omega)), h n (by omega) (by omega)]
theorem jpg_m {h : jm_H} (H : jRP h) : jPg (h 56 1) (h 57) := by
  obtain ⟨⟨a, b, c⟩, e, f⟩ := H
  exact ⟨by omega, by omega, fun j j0 j1 => by rw [f j j0 (by omega)]; exact c j j0 (by omega)⟩
