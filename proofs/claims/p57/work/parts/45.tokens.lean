/-! TOKENS: kind (0 the end, 1 none, 2 a word of the language, 3 a name, 4 a word too long, 5 a number, 6 a sign), place, value -/
abbrev aK : Type := Nat × Nat × Nat
def a_cv (x : Int32) : Nat := x.toBitVec.toNat % 256
theorem cv_and (x : Int32) : x &&& 255 = nI (a_cv x) := pk_and x 8 (by decide)
theorem cv_lt (x : Int32) : a_cv x < 256 := Nat.mod_lt _ (by omega)
def a_isl (c : Nat) : Bool := decide (97 ≤ c ∧ c ≤ 122)
def a_isd (c : Nat) : Bool := decide (48 ≤ c ∧ c ≤ 57)
def a_isb (c : Nat) : Bool := decide (c = 10 ∨ c = 32)
def a_iss (c : Nat) : Bool := decide (c = 59 ∨ c = 60 ∨ c = 62 ∨ c = 61)
def a_re (p : Nat → Bool) (C : Nat → Nat) : Nat → Nat → Nat
  | 0, i => i
  | k + 1, i => if p (C i) = true then a_re p C k (i + 1) else i
theorem re_rg (p : Nat → Bool) (C : Nat → Nat) : ∀ k i, i ≤ a_re p C k i ∧ a_re p C k i ≤ i + k
  | 0, i => ⟨Nat.le_refl _, Nat.le_refl _⟩
  | k + 1, i => by
    have h := re_rg p C k (i + 1)
    unfold a_re
    split <;> omega
theorem re_in (p : Nat → Bool) (C : Nat → Nat) : ∀ k i j, i ≤ j → j < a_re p C k i → p (C j) = true
  | 0, i, j, h1, h2 => by
    have h2 : j < i := h2
    omega
  | k + 1, i, j, h1, h2 => by
    unfold a_re at h2
    by_cases c : p (C i) = true
    · rw [if_pos c] at h2
      by_cases e : j = i
      · rw [e]; exact c
      · exact re_in p C k (i + 1) j (by omega) h2
    · rw [if_neg c] at h2
      omega
def a_cd2 (d : Nat → Nat) : Nat → Nat
  | 0 => 0
  | l + 1 => a_cd2 d l * 32 + d l
theorem cd2_inj {d e : Nat → Nat} : ∀ l k, (∀ j, j < l → 1 ≤ d j ∧ d j ≤ 26) → (∀ j, j < k → 1 ≤ e j ∧ e j ≤ 26) → a_cd2 d l = a_cd2 e k → l = k ∧ ∀ j, j < l → d j = e j
  | 0, 0, _, _, _ => ⟨rfl, fun j hj => absurd hj (by omega)⟩
  | 0, k + 1, _, h2, h => by
    have := h2 k (by omega)
    have h : 0 = a_cd2 e k * 32 + e k := h
    omega
  | l + 1, 0, h1, _, h => by
    have := h1 l (by omega)
    have h : a_cd2 d l * 32 + d l = 0 := h
    omega
  | l + 1, k + 1, h1, h2, h => by
    have a1 := h1 l (by omega)
    have a2 := h2 k (by omega)
    have h : a_cd2 d l * 32 + d l = a_cd2 e k * 32 + e k := h
    obtain ⟨e1, e2⟩ := cd2_inj l k (fun j hj => h1 j (by omega)) (fun j hj => h2 j (by omega)) (by omega)
    refine ⟨by omega, fun j hj => ?_⟩
    by_cases q : j = l
    · rw [q]
      have : l = k := e1
      subst this
      omega
    · exact e2 j (by omega)
theorem cd2_lt {d : Nat → Nat} : ∀ l, (∀ j, j < l → d j ≤ 26) → a_cd2 d l < 32 ^ l
  | 0, _ => Nat.zero_lt_one
  | l + 1, h => by
    have h1 := cd2_lt l (fun j hj => h j (by omega))
    have h2 := h l (by omega)
    show a_cd2 d l * 32 + d l < 32 ^ (l + 1)
    rw [Nat.pow_succ]
    omega
def a_code (C : Nat → Nat) (i : Nat) : Nat → Nat := a_cd2 (fun j => C (i + j) - 96)
theorem code_s (C : Nat → Nat) (i l : Nat) : a_code C i (l + 1) = a_code C i l * 32 + (C (i + l) - 96) := rfl
def a_num (C : Nat → Nat) (i : Nat) : Nat → Nat
  | 0 => 0
  | l + 1 => a_num C i l * 10 + (C (i + l) - 48)
theorem num_lt {C : Nat → Nat} {i : Nat} : ∀ l, (∀ j, j < l → a_isd (C (i + j)) = true) → a_num C i l < 10 ^ l
  | 0, _ => Nat.zero_lt_one
  | l + 1, h => by
    have h1 := num_lt l (fun j hj => h j (by omega))
    have h2 := of_decide_eq_true (h l (by omega))
    show a_num C i l * 10 + (C (i + l) - 48) < 10 ^ (l + 1)
    rw [Nat.pow_succ]
    omega
/-! the words of the language -/
def a_tq : List Nat := [0, 0, 0, 0, 0, 0, 0, 1, 1, 1, 1, 1, 1, 2, 2, 2, 2, 2, 2, 2, 2, 3, 3, 3, 3, 3, 3, 4, 4, 4, 4, 4, 4, 4, 5, 5, 5, 5, 5, 5, 6, 6, 6, 6, 6, 6, 7, 7, 7, 7, 7, 8, 8, 8, 9, 9, 9, 9, 9, 10, 10, 10, 10, 10, 11, 11, 11, 11, 11, 11, 11, 12, 12, 12, 12, 12, 13, 13, 13, 13, 14, 14, 14, 14, 14, 15, 15, 15, 15, 16, 16, 16, 16, 16, 17, 17, 17, 17, 17, 18, 18, 18, 18, 18, 18, 18, 19, 19, 19, 19, 19, 20, 20, 20, 20, 21, 21, 21, 21, 21, 22]
def a_tj : List Nat := [0, 1, 2, 3, 4, 5, 6, 0, 1, 2, 3, 4, 5, 0, 1, 2, 3, 4, 5, 6, 7, 0, 1, 2, 3, 4, 5, 0, 1, 2, 3, 4, 5, 6, 0, 1, 2, 3, 4, 5, 0, 1, 2, 3, 4, 5, 0, 1, 2, 3, 4, 0, 1, 2, 0, 1, 2, 3, 4, 0, 1, 2, 3, 4, 0, 1, 2, 3, 4, 5, 6, 0, 1, 2, 3, 4, 0, 1, 2, 3, 0, 1, 2, 3, 4, 0, 1, 2, 3, 0, 1, 2, 3, 4, 0, 1, 2, 3, 4, 0, 1, 2, 3, 4, 5, 6, 0, 1, 2, 3, 4, 0, 1, 2, 3, 0, 1, 2, 3, 4, 0]
def a_ko : List Nat := [0, 7, 13, 21, 27, 34, 40, 46, 51, 54, 59, 64, 71, 76, 80, 85, 89, 94, 99, 106, 111, 115]
def a_kn : List Nat := [6, 5, 7, 5, 6, 5, 5, 4, 2, 4, 4, 6, 4, 3, 4, 3, 4, 4, 6, 4, 3, 4]
def a_kcl : List Nat := [358170195, 6593160, 17362367129, 20186693, 542723566, 3646931, 20293004, 136356, 486, 206277, 495763, 109103333, 150000, 6642, 165454, 1497, 762030, 508078, 626309284, 409072, 5572, 643568]
def a_kc (q : Nat) : Nat := a_kcl.getD q 0
def a_kl (q : Nat) : Nat := a_kn.getD q 0
def a_kch (q j : Nat) : Nat := a_n (v_kw.getD (a_ko.getD q 0 + j) 0)
theorem kw_tab : ∀ k, k < 120 → (if v_kw.getD k 0 = 32 then a_tq.getD (k + 1) 0 = a_tq.getD k 0 + 1 ∧ a_tj.getD (k + 1) 0 = 0 ∧ a_tj.getD k 0 = a_kl (a_tq.getD k 0) else a_tq.getD (k + 1) 0 = a_tq.getD k 0 ∧ a_tj.getD (k + 1) 0 = a_tj.getD k 0 + 1 ∧ nI (a_kch (a_tq.getD k 0) (a_tj.getD k 0)) = v_kw.getD k 0 ∧ a_tj.getD k 0 < a_kl (a_tq.getD k 0)) ∧ a_tq.getD k 0 < 22 ∧ a_tj.getD k 0 < 8 := by decide +kernel
theorem kc_code : ∀ q, q < 22 → a_kc q = a_cd2 (fun j => a_kch q j - 96) (a_kl q) ∧ a_kl q ≤ 7 ∧ 0 < a_kl q := by decide +kernel
theorem kch_rg : ∀ q, q < 22 → ∀ j, j < a_kl q → 97 ≤ a_kch q j ∧ a_kch q j ≤ 122 := by decide +kernel
theorem kc_inj : ∀ q, q < 22 → ∀ r, r < 22 → a_kc q = a_kc r → q = r := by decide +kernel
theorem kc_lt : ∀ q, q < 22 → a_kc q < 2 ^ 40 := by decide +kernel
def a_km (C : Nat → Nat) (i l q : Nat) : Bool := decide (l = a_kl q ∧ ∀ j, j < a_kl q → C (i + j) = a_kch q j)
/-- a word's letters -/
def a_let (C : Nat → Nat) (i l : Nat) : Prop := ∀ j, j < l → a_isl (C (i + j)) = true
theorem let_rg {C : Nat → Nat} {i l : Nat} (h : a_let C i l) : ∀ j, j < l → 1 ≤ C (i + j) - 96 ∧ C (i + j) - 96 ≤ 26 := by
  intro j hj
  have := of_decide_eq_true (h j hj)
  omega
theorem km_code {C : Nat → Nat} {i l q : Nat} (hl : a_let C i l) (hq : q < 22) : a_km C i l q = decide (a_code C i l = a_kc q) := by
  obtain ⟨k1, k2, k3⟩ := kc_code q hq
  unfold a_km
  rw [decide_eq_decide, k1]
  constructor
  · rintro ⟨rfl, h⟩
    have key : ∀ n, n ≤ a_kl q → a_cd2 (fun j => C (i + j) - 96) n = a_cd2 (fun j => a_kch q j - 96) n := by
      intro n
      induction n with
      | zero => intro _; rfl
      | succ n ih =>
        intro hn
        show a_cd2 (fun j => C (i + j) - 96) n * 32 + (C (i + n) - 96) = a_cd2 (fun j => a_kch q j - 96) n * 32 + (a_kch q n - 96)
        rw [ih (by omega), h n (by omega)]
    exact key _ (Nat.le_refl _)
  · intro h
    have h : a_cd2 (fun j => C (i + j) - 96) l = a_cd2 (fun j => a_kch q j - 96) (a_kl q) := h
    obtain ⟨e1, e2⟩ := cd2_inj l (a_kl q) (let_rg hl) (fun j hj => by have := kch_rg q hq j hj; omega) h
    refine ⟨e1, fun j hj => ?_⟩
    have a1 := e2 j (by omega)
    have a2 := kch_rg q hq j hj
    have a3 := let_rg hl j (by omega)
    have a1 : C (i + j) - 96 = a_kch q j - 96 := a1
    omega
/-! the tokens of a text of n bytes -/
def a_wtk (C : Nat → Nat) (i l : Nat) : aK := match v_first (a_km C i l) 22 with
  | some q => (2, i, q)
  | none => if 8 < l then (4, i, 0) else (3, i, a_code C i l)
def a_ntk (C : Nat → Nat) (i l : Nat) : aK := if 4 < l then (1, i, 0) else (5, i, a_num C i l)
def a_nxt (C : Nat → Nat) (n i : Nat) : Nat := if a_isl (C i) = true then a_re a_isl C (n - i) i else if a_isd (C i) = true then a_re a_isd C (n - i) i else i + 1
def a_tok1 (C : Nat → Nat) (n i : Nat) : aK := if a_isl (C i) = true then a_wtk C i (a_re a_isl C (n - i) i - i) else if a_isd (C i) = true then a_ntk C i (a_re a_isd C (n - i) i - i) else if a_iss (C i) = true then (6, i, C i) else (1, i, 0)
theorem nxt_rg {C : Nat → Nat} {n i : Nat} (hi : i < n) : i < a_nxt C n i ∧ a_nxt C n i ≤ n := by
  have key : ∀ p : Nat → Bool, p (C i) = true → i < a_re p C (n - i) i ∧ a_re p C (n - i) i ≤ n := by
    intro p hp
    have h := re_rg p C (n - i) i
    rw [show n - i = (n - (i + 1)) + 1 by omega]
    have e : a_re p C ((n - (i + 1)) + 1) i = a_re p C (n - (i + 1)) (i + 1) := if_pos hp
    rw [e]
    have := re_rg p C (n - (i + 1)) (i + 1)
    omega
  unfold a_nxt
  split
  · next h => exact key _ h
  · split
    · next h => exact key _ h
    · omega
def a_tks (C : Nat → Nat) (n : Nat) : Nat → Nat → List aK
  | 0, _ => [(0, n, 0)]
  | k + 1, i => if n ≤ i then [(0, n, 0)] else if a_isb (C i) = true then a_tks C n k (i + 1) else a_tok1 C n i :: a_tks C n k (a_nxt C n i)
theorem tks_eq {C : Nat → Nat} {n : Nat} : ∀ k k' i, n - i ≤ k → n - i ≤ k' → a_tks C n k i = a_tks C n k' i
  | 0, 0, i, _, _ => rfl
  | 0, k' + 1, i, h, _ => by
    unfold a_tks
    rw [if_pos (by omega)]
  | k + 1, 0, i, _, h => by
    unfold a_tks
    rw [if_pos (by omega)]
  | k + 1, k' + 1, i, h, h' => by
    unfold a_tks
    by_cases c : n ≤ i
    · rw [if_pos c, if_pos c]
    · rw [if_neg c, if_neg c]
      have hn := nxt_rg (C := C) (n := n) (i := i) (by omega)
      rw [tks_eq k k' (i + 1) (by omega) (by omega), tks_eq k k' (a_nxt C n i) (by omega) (by omega)]
def a_tl (C : Nat → Nat) (n i : Nat) : List aK := a_tks C n (n - i) i
theorem tl_end {C : Nat → Nat} {n i : Nat} (h : n ≤ i) : a_tl C n i = [(0, n, 0)] := by
  unfold a_tl
  rw [show n - i = 0 by omega]
  rfl
theorem tl_s {C : Nat → Nat} {n i : Nat} (h : i < n) : a_tl C n i = if a_isb (C i) = true then a_tl C n (i + 1) else a_tok1 C n i :: a_tl C n (a_nxt C n i) := by
  have hn := nxt_rg (C := C) h
  have e : a_tl C n i = a_tks C n (n - i - 1 + 1) i := by unfold a_tl; rw [show n - i - 1 + 1 = n - i by omega]
  rw [e]
  show (if n ≤ i then [(0, n, 0)] else if a_isb (C i) = true then a_tks C n (n - i - 1) (i + 1) else a_tok1 C n i :: a_tks C n (n - i - 1) (a_nxt C n i)) = _
  rw [if_neg (by omega)]
  unfold a_tl
  rw [tks_eq (n - i - 1) (n - (i + 1)) (i + 1) (by omega) (by omega), tks_eq (n - i - 1) (n - a_nxt C n i) (a_nxt C n i) (by omega) (by omega)]
/-- what holds of every token -/
def a_tkok (t : aK) : Prop := t.2.1 ≤ 900 ∧ t.1 ≤ 6 ∧ (t.1 = 2 → t.2.2 < 22) ∧ (t.1 = 3 → t.2.2 < 2 ^ 40 ∧ ∀ q, q < 22 → t.2.2 ≠ a_kc q) ∧ (t.1 = 5 → t.2.2 < 10000) ∧ (t.1 = 6 → t.2.2 < 256 ∧ 59 ≤ t.2.2 ∧ t.2.2 ≤ 62)
theorem let_of {C : Nat → Nat} {n i : Nat} : a_let C i (a_re a_isl C (n - i) i - i) := fun j hj => re_in a_isl C (n - i) i (i + j) (by omega) (by omega)
theorem tok1_ok {C : Nat → Nat} {n i : Nat} (hn : n ≤ 900) (hC : ∀ j, C j < 256) (hi : i < n) : a_tkok (a_tok1 C n i) := by
  unfold a_tok1
  split
  · next c =>
    have hl := let_of (C := C) (n := n) (i := i)
    unfold a_wtk
    cases q : v_first (a_km C i (a_re a_isl C (n - i) i - i)) 22 with
    | some k =>
      have hk := first_lt _ _ q
      refine ⟨?_, ?_, fun _ => hk, ?_, ?_, ?_⟩ <;> simp only <;> omega
    | none =>
      simp only
      split
      · refine ⟨?_, ?_, ?_, ?_, ?_, ?_⟩ <;> simp only <;> omega
      · next h8 =>
        refine ⟨?_, ?_, ?_, fun _ => ⟨?_, fun k hk e => ?_⟩, ?_, ?_⟩
        · show i ≤ 900; omega
        · show 3 ≤ 6; omega
        · intro e; exact absurd e (show ¬ 3 = 2 by omega)
        · have h := cd2_lt (d := fun j => C (i + j) - 96) (a_re a_isl C (n - i) i - i) (fun j hj => (let_rg hl j hj).2)
          have h2 : 32 ^ (a_re a_isl C (n - i) i - i) ≤ 32 ^ 8 := Nat.pow_le_pow_right (by omega) (by omega)
          show a_code C i _ < 2 ^ 40
          unfold a_code
          omega
        · have w : a_km C i (a_re a_isl C (n - i) i - i) k = true := by
            rw [km_code hl hk]; exact decide_eq_true e
          have key : ∀ m, v_first (a_km C i (a_re a_isl C (n - i) i - i)) m = none → ∀ k, k < m → a_km C i (a_re a_isl C (n - i) i - i) k = false := by
            intro m
            induction m with
            | zero => intro _ k hk; omega
            | succ m ih =>
              intro hm k hk
              unfold v_first at hm
              split at hm
              · cases hm
              · next hm' =>
                split at hm
                · cases hm
                · next hm2 =>
                  by_cases ek : k = m
                  · rw [ek]; simpa using hm2
                  · exact ih hm' k (by omega)
          rw [key 22 q k hk] at w
          exact Bool.noConfusion w
        · intro e; exact absurd e (show ¬ 3 = 5 by omega)
        · intro e; exact absurd e (show ¬ 3 = 6 by omega)
  · split
    · unfold a_ntk
      split
      · refine ⟨?_, ?_, ?_, ?_, ?_, ?_⟩ <;> simp only <;> omega
      · next h4 =>
        have h := num_lt (C := C) (i := i) (a_re a_isd C (n - i) i - i) (fun j hj => re_in a_isd C (n - i) i (i + j) (by omega) (by omega))
        have h2 : 10 ^ (a_re a_isd C (n - i) i - i) ≤ 10 ^ 4 := Nat.pow_le_pow_right (by omega) (by omega)
        refine ⟨?_, ?_, ?_, ?_, fun _ => ?_, ?_⟩
        · show i ≤ 900; omega
        · show 5 ≤ 6; omega
        · intro e; exact absurd e (show ¬ 5 = 2 by omega)
        · intro e; exact absurd e (show ¬ 5 = 3 by omega)
        · show a_num C i _ < 10000; omega
        · intro e; exact absurd e (show ¬ 5 = 6 by omega)
    · split
      · next q6 =>
        have q6 := of_decide_eq_true q6
        have := hC i
        refine ⟨?_, ?_, ?_, ?_, ?_, ?_⟩ <;> simp only <;> omega
      · refine ⟨?_, ?_, ?_, ?_, ?_, ?_⟩ <;> simp only <;> omega
theorem tl_ok {C : Nat → Nat} {n : Nat} (hn : n ≤ 900) (hC : ∀ j, C j < 256) : ∀ k i, ∀ t, t ∈ a_tks C n k i → a_tkok t
  | 0, i, t, h => by
    have e : t = (0, n, 0) := by simpa [a_tks] using h
    subst e
    refine ⟨?_, ?_, ?_, ?_, ?_, ?_⟩ <;> simp only <;> omega
  | k + 1, i, t, h => by
    unfold a_tks at h
    split at h
    · have e : t = (0, n, 0) := by simpa using h
      subst e
      refine ⟨?_, ?_, ?_, ?_, ?_, ?_⟩ <;> simp only <;> omega
    · next c =>
      split at h
      · exact tl_ok hn hC k _ t h
      · rcases List.mem_cons.mp h with q | q
        · rw [q]; exact tok1_ok hn hC (by omega)
        · exact tl_ok hn hC k _ t q
/-! the class's tape -/
theorem x_byteAt {S : vSt} {C : Nat → Nat} {n i : Nat} {K : Int32 → vSt → Prop} (hn : n ≤ 900) (H : ∀ j, j < n → S.1 6 j &&& 255 = nI (C j)) (hi : i < n) : p_X6_byteAt S (nI i) K = K (nI (C i)) S := by
  have h1 : ¬ nI i < 0 := nI_pos (by omega)
  have h2 : ¬ 900 ≤ nI i := nI_ge (b := 900) (by omega) (by omega)
  unfold p_X6_byteAt
  simp (disch := omega) only [h1, h2, eq_self, reduceCtorEq, true_implies, false_implies, and_true, true_and, not_true_eq_false, not_false_eq_true, ia8, ia16, ia24, ia32, ia40, ia48, ia58, ia68, ia78, ia88, ia98, ncl, vpt, c0, c1, c2, c3, c4, c5, c6, c7, k0, k1, k2, k3, k4, k5, k6, k7, H i hi]
theorem rg_nI {c lo hi : Nat} {A B : Prop} (hc : c < 2 ^ 30) (h1 : lo < 2 ^ 30) (h2 : hi < 2 ^ 30) : ((nI c < nI lo → A) ∧ (¬ nI c < nI lo → ((nI hi < nI c → A) ∧ (¬ nI hi < nI c → B)))) = (if lo ≤ c ∧ c ≤ hi then B else A) := by
  have e1 : nI c < nI lo ↔ c < lo := nI_ltI (by omega) (by omega)
  have e2 : nI hi < nI c ↔ hi < c := nI_ltI (by omega) (by omega)
  rw [e1, e2]
  by_cases a : c < lo <;> by_cases b : hi < c
  · rw [if_neg (by omega)]; simp [a]
  · rw [if_neg (by omega)]; simp [a]
  · rw [if_neg (by omega)]; simp [a, b]
  · rw [if_pos (by omega)]; simp [a, b]
theorem e_isLetter {S : vSt} {c : Nat} {K : Bool → vSt → Prop} (hc : c < 256) : p_X6_isLetter S (nI c) K = K (a_isl c) S := by
  unfold p_X6_isLetter a_isl
  have h := rg_nI (c := c) (lo := 97) (hi := 122) (A := K false S) (B := K true S) (by omega) (by omega) (by omega)
  rw [show (97 : Int32) = nI 97 from rfl, show (122 : Int32) = nI 122 from rfl, h]
  split
  · next q => rw [decide_eq_true q]
  · next q => rw [decide_eq_false q]
theorem e_isDigit {S : vSt} {c : Nat} {K : Bool → vSt → Prop} (hc : c < 256) : p_X6_isDigit S (nI c) K = K (a_isd c) S := by
  unfold p_X6_isDigit a_isd
  have h := rg_nI (c := c) (lo := 48) (hi := 57) (A := K false S) (B := K true S) (by omega) (by omega) (by omega)
  rw [show (48 : Int32) = nI 48 from rfl, show (57 : Int32) = nI 57 from rfl, h]
  split
  · next q => rw [decide_eq_true q]
  · next q => rw [decide_eq_false q]
theorem x_runEnd {S : vSt} {C : Nat → Nat} {n : Nat} {a1 : Int32} {b : Bool} {K : Int32 → vSt → Prop} (hn : n ≤ 900) (hC : ∀ j, C j < 256) (H : ∀ j, j < n → S.1 6 j &&& 255 = nI (C j)) : ∀ k i, i + k = n → K (nI (a_re (if b = true then a_isl else a_isd) C k i)) S → p_X6_runEnd_3 a1 (nI n) b K (k + 1) S (nI i)
  | 0, i, hi, h => by
    rw [e_X6_runEnd_3, show n = i by omega]
    simp only [Int32.le_refl, eq_self, reduceCtorEq, true_implies, false_implies, and_true, true_and, not_true_eq_false, not_false_eq_true]
    exact h
  | k + 1, i, hi, h => by
    have n1 : ¬ nI n ≤ nI i := nI_ge (by omega) (by omega)
    have ih := x_runEnd (a1 := a1) (b := b) (K := K) hn hC H k (i + 1) (by omega)
    rw [e_X6_runEnd_3]
    unfold p_X6_runEnd_40
    simp only [x_byteAt hn H (show i < n by omega), e_isDigit (hC i), e_isLetter (hC i), n1, eq_self, reduceCtorEq, true_implies, false_implies, and_true, true_and, not_true_eq_false, not_false_eq_true, forall_eq, nIs]
    unfold a_re at h
    cases b
    · simp only [eq_self, reduceCtorEq, true_implies, false_implies, and_true, true_and, not_true_eq_false, not_false_eq_true]
      rw [if_neg (show ¬ false = true by decide)] at h
      cases q : a_isd (C i)
      · rw [q, if_neg (by decide)] at h
        simp only [eq_self, reduceCtorEq, true_implies, false_implies, and_true, true_and, not_true_eq_false, not_false_eq_true]
        exact h
      · rw [q, if_pos rfl] at h
        simp only [eq_self, reduceCtorEq, true_implies, false_implies, and_true, true_and, not_true_eq_false, not_false_eq_true]
        refine ih ?_
        rw [if_neg (show ¬ false = true by decide)]
        exact h
    · simp only [eq_self, reduceCtorEq, true_implies, false_implies, and_true, true_and, not_true_eq_false, not_false_eq_true]
      rw [if_pos rfl] at h
      cases q : a_isl (C i)
      · rw [q, if_neg (by decide)] at h
        simp only [eq_self, reduceCtorEq, true_implies, false_implies, and_true, true_and, not_true_eq_false, not_false_eq_true]
        exact h
      · rw [q, if_pos rfl] at h
        simp only [eq_self, reduceCtorEq, true_implies, false_implies, and_true, true_and, not_true_eq_false, not_false_eq_true]
        refine ih ?_
        rw [if_pos rfl]
        exact h
/-- the tokens stand in rows -/
def a_rws (S : vSt) (L : List aK) : Prop := ∀ (j : Nat) (t : aK), L[j]? = some t → S.1 7 j = nI t.1 ∧ S.1 8 j = nI t.2.1 ∧ S.2 9 j = lN t.2.2
def a_tf (k j : Nat) : Bool := decide (k = 7 ∨ k = 8 ∨ k = 9 ∨ (k = 5 ∧ 5 ≤ j ∧ j ≤ 12))
theorem x_addToken {S : vSt} {L : List aK} {t : aK} {x : Int64} {K : vSt → Prop} (h0 : a_rws S L) (h1 : S.1 5 5 = nI L.length) (hL : L.length < 901) (hx : x = lN t.2.2) (h : ∀ S', a_fr a_tf S S' → a_rws S' (L ++ [t]) → S'.1 5 5 = nI (L ++ [t]).length → K S') : p_X6_addToken S (nI t.1) (nI t.2.1) x K := by
  unfold p_X6_addToken
  subst hx
  rw [h1, e_put hL (by omega)]
  have e1 : (v_si S 7 L.length (nI t.1)).1 5 5 = nI L.length := h1
  rw [e1, e_put hL (by omega)]
  have e2 : (v_si (v_si S 7 L.length (nI t.1)) 8 L.length (nI t.2.1)).1 5 5 = nI L.length := h1
  rw [e2, e_putl hL (by omega)]
  rintro _ rfl
  have e3 : (v_sl (v_si (v_si S 7 L.length (nI t.1)) 8 L.length (nI t.2.1)) 9 L.length (lN t.2.2)).1 5 5 = nI L.length := h1
  rw [e3, nIs]
  refine h _ (fr_i (fr_l (fr_i (fr_i fr_r rfl) rfl) rfl) rfl) (fun j t' q => ?_) (by rw [si_at, List.length_append]; rfl)
  rw [List.getElem?_append] at q
  have n1 : ∀ k, k ≠ 5 → ∀ a, (v_si (v_sl (v_si (v_si S 7 L.length (nI t.1)) 8 L.length (nI t.2.1)) 9 L.length (lN t.2.2)) 5 5 (nI (L.length + 1))).1 k a = (v_si (v_si S 7 L.length (nI t.1)) 8 L.length (nI t.2.1)).1 k a := fun k hk a => by
    rw [si1, if_neg (fun w => hk w.1), sl1]
  rw [n1 7 (by omega), n1 8 (by omega), si2, sl2]
  by_cases c : j < L.length
  · rw [if_pos c] at q
    obtain ⟨a1, a2, a3⟩ := h0 j t' q
    rw [si1, si1, si1, si1, if_neg (fun w => by omega), if_neg (fun w => by omega), if_neg (fun w => by omega), if_neg (fun w => by omega), if_neg (fun w => by omega)]
    exact ⟨a1, a2, a3⟩
  · rw [if_neg c] at q
    have hj : j - L.length < 1 := by
      have := (List.getElem?_eq_some_iff.mp q).1
      simpa using this
    have ej : j = L.length := by omega
    rw [ej, Nat.sub_self] at q
    have et : t = t' := by simpa using q
    subst et ej
    rw [si1, si1, si1, si1, if_neg (fun w => by omega), if_pos ⟨rfl, rfl⟩, if_pos ⟨rfl, rfl⟩, if_pos ⟨rfl, rfl⟩]
    exact ⟨rfl, rfl, rfl⟩
theorem x_keywordOf {S : vSt} {C : Nat → Nat} {n i l : Nat} {K : Int32 → vSt → Prop} (hn : n ≤ 900) (hC : ∀ j, C j < 256) (H : ∀ j, j < n → S.1 6 j &&& 255 = nI (C j)) (hi : i + l ≤ n) (h : K (a_fg (a_km C i l) nI 22) S) : p_X6_keywordOf S (nI i) (nI (i + l)) K := by
  unfold p_X6_keywordOf
  refine v_loop (fun fu k (z : Int32 × Int32 × Bool) => p_X6_keywordOf_11 (nI i) (nI (i + l)) K fu S z.1 z.2.1 z.2.2 (nI k)) (fun k z => z.1 = nI (a_tq.getD k 0) ∧ z.2.1 = nI (i + a_tj.getD k 0) ∧ z.2.2 = decide (∀ j, j < a_tj.getD k 0 → j < l ∧ C (i + j) = a_kch (a_tq.getD k 0) j) ∧ ∀ q, q < a_tq.getD k 0 → a_km C i l q = false) 120 (fun fu k z hk hI hh => ?_) (fun fu z hI => ?_) (0, nI i, true) ⟨rfl, rfl, ?_, fun q hq => absurd hq (Nat.not_lt_zero q)⟩
  · obtain ⟨z1, z2, z3⟩ := z
    obtain ⟨e1, e2, e3, e4⟩ := hI
    simp only at e1 e2 e3
    subst e1 e2
    obtain ⟨tab, tq22, tj8⟩ := kw_tab k hk
    have n1 : ¬ 120 ≤ nI k := nI_ge (b := 120) hk (by omega)
    rw [e_X6_keywordOf_11]
    unfold p_X6_keywordOf_85 p_X6_keywordOf_63 p_X6_keywordOf_64 p_X6_keywordOf_94
    simp (disch := omega) only [n1, eq_self, reduceCtorEq, true_implies, false_implies, and_true, true_and, not_true_eq_false, not_false_eq_true, ia8, ia16, ia24, ia32, ia40, ia48, ia58, ia68, ia78, ia88, ia98, ncl, vpt, c0, c1, c2, c3, c4, c5, c6, c7, k0, k1, k2, k3, k4, k5, k6, k7, forall_eq, nIs]
    by_cases b : v_kw.getD k 0 = 32
    · rw [if_pos b] at tab
      obtain ⟨t1, t2, t3⟩ := tab
      simp only [b, eq_self, reduceCtorEq, true_implies, false_implies, and_true, true_and, not_true_eq_false, not_false_eq_true]
      have go : ¬ (z3 = true ∧ a_tj.getD k 0 = l) → p_X6_keywordOf_11 (nI i) (nI (i + l)) K fu S (nI (a_tq.getD k 0 + 1)) (nI i) true (nI (k + 1)) := by
        intro ne
        refine hh (nI (a_tq.getD k 0 + 1), nI i, true) ⟨by rw [t1], by rw [t2]; rfl, ?_, fun q hq => ?_⟩
        · show true = _
          rw [t2]
          exact (decide_eq_true (fun j hj => absurd hj (Nat.not_lt_zero j))).symm
        · rw [t1] at hq
          by_cases eq : q = a_tq.getD k 0
          · rw [eq]
            unfold a_km
            refine decide_eq_false (fun w => ne ?_)
            rw [e3]
            refine ⟨decide_eq_true (fun j hj => ?_), by rw [t3]; exact w.1.symm⟩
            rw [t3] at hj
            exact ⟨by rw [w.1]; exact hj, w.2 j hj⟩
          · exact e4 q (by omega)
      have ej : nI (i + a_tj.getD k 0) = nI (i + l) ↔ a_tj.getD k 0 = l := by
        rw [nI_eq (by omega) (by omega)]
        omega
      cases c : z3
      · simp only [eq_self, reduceCtorEq, true_implies, false_implies, and_true, true_and, not_true_eq_false, not_false_eq_true]
        exact go (fun w => by rw [c] at w; exact Bool.noConfusion w.1)
      · simp only [eq_self, reduceCtorEq, true_implies, false_implies, and_true, true_and, not_true_eq_false, not_false_eq_true]
        by_cases d : a_tj.getD k 0 = l
        · simp only [ej.mpr d, eq_self, reduceCtorEq, true_implies, false_implies, and_true, true_and, not_true_eq_false, not_false_eq_true]
          have m1 : a_km C i l (a_tq.getD k 0) = true := by
            rw [c] at e3
            have e3 := of_decide_eq_true e3.symm
            refine decide_eq_true ⟨by rw [← t3]; exact d.symm, fun j hj => ?_⟩
            rw [← t3] at hj
            exact (e3 j hj).2
          rw [fg_some e4 m1 tq22] at h
          exact h
        · have d' : ¬ nI (i + a_tj.getD k 0) = nI (i + l) := fun w => d (ej.mp w)
          simp only [d', eq_self, reduceCtorEq, true_implies, false_implies, and_true, true_and, not_true_eq_false, not_false_eq_true]
          exact go (fun w => d w.2)
    · rw [if_neg b] at tab
      obtain ⟨t1, t2, t3, t4⟩ := tab
      simp only [b, eq_self, reduceCtorEq, true_implies, false_implies, and_true, true_and, not_true_eq_false, not_false_eq_true]
      have go : ∀ s0 : Bool, s0 = (z3 && decide (a_tj.getD k 0 < l ∧ C (i + a_tj.getD k 0) = a_kch (a_tq.getD k 0) (a_tj.getD k 0))) → p_X6_keywordOf_11 (nI i) (nI (i + l)) K fu S (nI (a_tq.getD k 0)) (nI (i + a_tj.getD k 0 + 1)) s0 (nI (k + 1)) := by
        intro s0 es
        refine hh (nI (a_tq.getD k 0), nI (i + a_tj.getD k 0 + 1), s0) ⟨by rw [t1], by rw [t2]; rfl, ?_, fun q hq => ?_⟩
        · show s0 = _
          rw [es, e3, t1, t2, Bool.eq_iff_iff, Bool.and_eq_true, decide_eq_true_iff, decide_eq_true_iff, decide_eq_true_iff]
          constructor
          · rintro ⟨w1, w2⟩ j hj
            by_cases ej : j = a_tj.getD k 0
            · rw [ej]; exact w2
            · exact w1 j (by omega)
          · intro w
            exact ⟨fun j hj => w j (by omega), w _ (by omega)⟩
        · rw [t1] at hq
          exact e4 q hq
      cases c : z3
      · simp only [eq_self, reduceCtorEq, true_implies, false_implies, and_true, true_and, not_true_eq_false, not_false_eq_true]
        exact go false (by rw [c]; rfl)
      · simp only [eq_self, reduceCtorEq, true_implies, false_implies, and_true, true_and, not_true_eq_false, not_false_eq_true]
        by_cases d : a_tj.getD k 0 < l
        · have d' : ¬ nI (i + l) ≤ nI (i + a_tj.getD k 0) := nI_ge (by omega) (by omega)
          simp only [d', eq_self, reduceCtorEq, true_implies, false_implies, and_true, true_and, not_true_eq_false, not_false_eq_true, x_byteAt hn H (show i + a_tj.getD k 0 < n by omega)]
          have ec : nI (C (i + a_tj.getD k 0)) = v_kw.getD k 0 ↔ C (i + a_tj.getD k 0) = a_kch (a_tq.getD k 0) (a_tj.getD k 0) := by
            have h1 := hC (i + a_tj.getD k 0)
            have h2 := kch_rg _ tq22 _ t4
            rw [← t3, nI_eq (by omega) (by omega)]
          by_cases w : C (i + a_tj.getD k 0) = a_kch (a_tq.getD k 0) (a_tj.getD k 0)
          · simp only [ec.mpr w, eq_self, reduceCtorEq, true_implies, false_implies, and_true, true_and, not_true_eq_false, not_false_eq_true]
            exact go true (by rw [c, decide_eq_true ⟨d, w⟩]; rfl)
          · have w' : ¬ nI (C (i + a_tj.getD k 0)) = v_kw.getD k 0 := fun q => w (ec.mp q)
            simp only [w', eq_self, reduceCtorEq, true_implies, false_implies, and_true, true_and, not_true_eq_false, not_false_eq_true]
            exact go false (by rw [c, decide_eq_false (fun q => w q.2)]; rfl)
        · have d' : nI (i + l) ≤ nI (i + a_tj.getD k 0) := nI_le (by omega) (by omega)
          simp only [d', eq_self, reduceCtorEq, true_implies, false_implies, and_true, true_and, not_true_eq_false, not_false_eq_true]
          exact go false (by rw [c, decide_eq_false (fun q => d q.1)]; rfl)
  · obtain ⟨z1, z2, z3⟩ := z
    obtain ⟨e1, e2, e3, e4⟩ := hI
    have n1 : (120 : Int32) ≤ nI 120 := by decide
    simp only [e_X6_keywordOf_11, n1, eq_self, reduceCtorEq, true_implies, false_implies, and_true, true_and, not_true_eq_false, not_false_eq_true]
    have e4 : ∀ q, q < 22 → a_km C i l q = false := e4
    rw [fg_none e4] at h
    exact h
  · exact (decide_eq_true (fun j hj => absurd hj (Nat.not_lt_zero j))).symm
