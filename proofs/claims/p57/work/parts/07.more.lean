/-- the five cities' first cells -/
def v_isC (b : Nat) : Prop := b = 10 ∨ b = 32 ∨ b = 77 ∨ b = 99 ∨ b = 121
theorem v_cb {b : Nat} (h : v_isC b) (o : Nat) (ho : o < 22) : b + o < 145 := by unfold v_isC at h; omega
theorem v_co0 {b : Nat} (h : v_isC b) : (v_sh b).1 = 0 := by rcases h with rfl | rfl | rfl | rfl | rfl <;> rfl
theorem v_co15 {b : Nat} (h : v_isC b) : (v_sh (b + 15)).1 = 8 := by rcases h with rfl | rfl | rfl | rfl | rfl <;> rfl
theorem v_i10 : v_isC 10 := by unfold v_isC; omega
theorem v_i32 : v_isC 32 := by unfold v_isC; omega
theorem v_i77 : v_isC 77 := by unfold v_isC; omega
theorem v_i99 : v_isC 99 := by unfold v_isC; omega
theorem v_i121 : v_isC 121 := by unfold v_isC; omega
theorem v_ca1 {b : Nat} (h : v_isC b) : v_sh (b + 1) = (13, 4) := by rcases h with rfl | rfl | rfl | rfl | rfl <;> rfl
theorem v_ca2 {b : Nat} (h : v_isC b) : v_sh (b + 2) = (14, 8) := by rcases h with rfl | rfl | rfl | rfl | rfl <;> rfl
theorem v_ca3 {b : Nat} (h : v_isC b) : v_sh (b + 3) = (13, 8) := by rcases h with rfl | rfl | rfl | rfl | rfl <;> rfl
theorem v_ca4 {b : Nat} (h : v_isC b) : v_sh (b + 4) = (13, 8) := by rcases h with rfl | rfl | rfl | rfl | rfl <;> rfl
theorem v_ca5 {b : Nat} (h : v_isC b) : v_sh (b + 5) = (13, 8) := by rcases h with rfl | rfl | rfl | rfl | rfl <;> rfl
theorem v_ca6 {b : Nat} (h : v_isC b) : v_sh (b + 6) = (13, 8) := by rcases h with rfl | rfl | rfl | rfl | rfl <;> rfl
theorem v_ca7 {b : Nat} (h : v_isC b) : v_sh (b + 7) = (13, 8) := by rcases h with rfl | rfl | rfl | rfl | rfl <;> rfl
theorem v_ca8 {b : Nat} (h : v_isC b) : v_sh (b + 8) = (14, 10) := by rcases h with rfl | rfl | rfl | rfl | rfl <;> rfl
theorem v_ca9 {b : Nat} (h : v_isC b) : v_sh (b + 9) = (13, 10) := by rcases h with rfl | rfl | rfl | rfl | rfl <;> rfl
theorem v_ca10 {b : Nat} (h : v_isC b) : v_sh (b + 10) = (13, 10) := by rcases h with rfl | rfl | rfl | rfl | rfl <;> rfl
theorem v_ca11 {b : Nat} (h : v_isC b) : v_sh (b + 11) = (13, 10) := by rcases h with rfl | rfl | rfl | rfl | rfl <;> rfl
theorem v_ca12 {b : Nat} (h : v_isC b) : v_sh (b + 12) = (13, 10) := by rcases h with rfl | rfl | rfl | rfl | rfl <;> rfl
theorem v_ca13 {b : Nat} (h : v_isC b) : v_sh (b + 13) = (13, 10) := by rcases h with rfl | rfl | rfl | rfl | rfl <;> rfl
theorem v_ca14 {b : Nat} (h : v_isC b) : v_sh (b + 14) = (13, 10) := by rcases h with rfl | rfl | rfl | rfl | rfl <;> rfl
theorem v_ca16 {b : Nat} (h : v_isC b) : v_sh (b + 16) = (13, 60) := by rcases h with rfl | rfl | rfl | rfl | rfl <;> rfl
theorem v_ca17 {b : Nat} (h : v_isC b) : v_sh (b + 17) = (13, 60) := by rcases h with rfl | rfl | rfl | rfl | rfl <;> rfl
theorem v_ca18 {b : Nat} (h : v_isC b) : v_sh (b + 18) = (13, 60) := by rcases h with rfl | rfl | rfl | rfl | rfl <;> rfl
theorem v_ca19 {b : Nat} (h : v_isC b) : v_sh (b + 19) = (13, 60) := by rcases h with rfl | rfl | rfl | rfl | rfl <;> rfl
theorem v_ca20 {b : Nat} (h : v_isC b) : v_sh (b + 20) = (13, 60) := by rcases h with rfl | rfl | rfl | rfl | rfl <;> rfl
theorem v_ca21 {b : Nat} (h : v_isC b) : v_sh (b + 21) = (13, 60) := by rcases h with rfl | rfl | rfl | rfl | rfl <;> rfl
/-- what the tables say of a field: class, place, kind, names -/
def v_FI (ci j code r : Nat) (Cn : String) (T : u_T) (N : Nat) (ref nm ds : String) : Prop := ci < 12 ∧ (v_fk ci)[j]? = some (code, r) ∧ vwCl[ci]? = some (Cn, T, N) ∧ (∀ w ∈ u_ws Cn T N, w ∈ wsL_law) ∧ j < N ∧ (T j).1 = ref ∧ (T j).2.1 = nm ∧ (T j).2.2.1 = ds
def v_FP (j : Nat) (T : u_T) (N : Nat) (ty0 : Nat → FieldType) (ty : FieldType) : Prop := (∀ k, k < N → parseFieldDescriptor (T k).2.2.1 = some (ty0 k)) ∧ (∀ a, a < N → ∀ b, b < N → a ≠ b → (T a).2.1 ≠ (T b).2.1) ∧ (T j).2.2.2 = false ∧ ty0 j = ty
def v_isb (x : Int32) : Prop := x = 0 ∨ x = 1
theorem v_isb_b (b : Bool) : v_isb (v_b b) := by cases b <;> first | exact Or.inl rfl | exact Or.inr rfl
theorem v_isb_0 : v_isb 0 := Or.inl rfl
theorem v_isb_1 : v_isb 1 := Or.inr rfl
theorem v_isb_n {x : Int32} (h : v_isb x) : narrow .boolean (.int x) = .int x := by rcases h with rfl | rfl <;> decide +kernel
theorem v_isb_f {x : Int32} (h : v_isb x) : fits .boolean (.int x) = true := by rcases h with rfl | rfl <;> decide +kernel
section VM
variable {X : vX} {G : vG} {cc : ByteArray} {own : String} {nL : Nat} {R : Room} {S : vSt} {pc : Nat} {lv lv' : List (Nat × Value)} {st : List Value}
theorem V_topi {x : Int32} (k : ∀ y : Int32, y = x → VJ X G S pc lv (.int y :: st)) : VJ X G S pc lv (.int x :: st) := k x rfl
theorem V_topz {x : Bool} (k : ∀ y : Bool, y = x → VJ X G S pc lv (.int (v_b y) :: st)) : VJ X G S pc lv (.int (v_b x) :: st) := k x rfl
theorem V_topl {x : Int64} (k : ∀ y : Int64, y = x → VJ X G S pc lv (.long y :: st)) : VJ X G S pc lv (.long x :: st) := k x rfl
theorem V_topS (k : ∀ S' : vSt, S' = S → VJ X G S' pc lv st) : VJ X G S pc lv st := k S rfl
theorem V_gi (C : v_Cx X G cc own nL R) (k : Nat) {ci j i N : Nat} {Cn ref nm ds : String} {T : u_T} (hk : k < 145) (hs : (v_sh k).1 = ci) (F : v_FI ci j 0 j Cn T N ref nm ds) (hw : Cond.fieldLink own i ref nm ds ∈ wsL_law) (hd : decode cc pc = .ok (.getfield i, 3)) (kk : VJ X G S (pc + 3) lv (.int (S.1 k j) :: st)) : VJ X G S pc lv (.ref (G.1 k) :: st) := V_geti C k ci j hk hs F.1 F.2.1 F.2.2.1 F.2.2.2.1 F.2.2.2.2.1 F.2.2.2.2.2.1 (by rw [F.2.2.2.2.2.2.1, F.2.2.2.2.2.2.2]; exact hw) hd kk
theorem V_gl (C : v_Cx X G cc own nL R) (k : Nat) {ci j i N : Nat} {Cn ref nm ds : String} {T : u_T} (hk : k < 145) (hs : (v_sh k).1 = ci) (F : v_FI ci j 1 j Cn T N ref nm ds) (hw : Cond.fieldLink own i ref nm ds ∈ wsL_law) (hd : decode cc pc = .ok (.getfield i, 3)) (kk : VJ X G S (pc + 3) lv (.long (S.2 k j) :: st)) : VJ X G S pc lv (.ref (G.1 k) :: st) := V_getl C k ci j hk hs F.1 F.2.1 F.2.2.1 F.2.2.2.1 F.2.2.2.2.1 F.2.2.2.2.2.1 (by rw [F.2.2.2.2.2.2.1, F.2.2.2.2.2.2.2]; exact hw) hd kk
theorem V_gr (C : v_Cx X G cc own nL R) (k : Nat) {ci j r i N : Nat} {Cn ref nm ds : String} {T : u_T} (hk : k < 145) (hs : (v_sh k).1 = ci) (F : v_FI ci j 2 r Cn T N ref nm ds) (hw : Cond.fieldLink own i ref nm ds ∈ wsL_law) (hd : decode cc pc = .ok (.getfield i, 3)) (kk : VJ X G S (pc + 3) lv (.ref (G.1 (k + r)) :: st)) : VJ X G S pc lv (.ref (G.1 k) :: st) := V_getr C k ci j r hk hs F.1 F.2.1 F.2.2.1 F.2.2.2.1 F.2.2.2.2.1 F.2.2.2.2.2.1 (by rw [F.2.2.2.2.2.2.1, F.2.2.2.2.2.2.2]; exact hw) hd kk
theorem V_ga (C : v_Cx X G cc own nL R) (k : Nat) {ci j r i N : Nat} {Cn ref nm ds : String} {T : u_T} (hk : k < 145) (hs : (v_sh k).1 = ci) (F : v_FI ci j 3 r Cn T N ref nm ds) (hw : Cond.fieldLink own i ref nm ds ∈ wsL_law) (hd : decode cc pc = .ok (.getfield i, 3)) (kk : VJ X G S (pc + 3) lv (.ref (G.1 r) :: st)) : VJ X G S pc lv (.ref (G.1 k) :: st) := V_geta C k ci j r hk hs F.1 F.2.1 F.2.2.1 F.2.2.2.1 F.2.2.2.2.1 F.2.2.2.2.2.1 (by rw [F.2.2.2.2.2.2.1, F.2.2.2.2.2.2.2]; exact hw) hd kk
theorem V_pi (C : v_Cx X G cc own nL R) (k : Nat) {ci j i N : Nat} {Cn ref nm ds : String} {T : u_T} {ty0 : Nat → FieldType} {v : Int32} (hk : k < 145) (hs : (v_sh k).1 = ci) (F : v_FI ci j 0 j Cn T N ref nm ds ∧ v_FP j T N ty0 .int) (hw : Cond.fieldLink own i ref nm ds ∈ wsL_law) (hd : decode cc pc = .ok (.putfield i, 3)) (kk : VJ X G (v_si S k j v) (pc + 3) lv st) : VJ X G S pc lv (.int v :: .ref (G.1 k) :: st) := V_puti C k ci j hk hs F.1.1 F.1.2.1 F.1.2.2.1 F.1.2.2.2.1 F.2.1 F.2.2.1 F.1.2.2.2.2.1 F.1.2.2.2.2.2.1 (by rw [F.1.2.2.2.2.2.2.1, F.1.2.2.2.2.2.2.2]; exact hw) F.2.2.2.1 F.2.2.2.2 rfl rfl hd kk
theorem V_pl (C : v_Cx X G cc own nL R) (k : Nat) {ci j i N : Nat} {Cn ref nm ds : String} {T : u_T} {ty0 : Nat → FieldType} {v : Int64} (hk : k < 145) (hs : (v_sh k).1 = ci) (F : v_FI ci j 1 j Cn T N ref nm ds ∧ v_FP j T N ty0 .long) (hw : Cond.fieldLink own i ref nm ds ∈ wsL_law) (hd : decode cc pc = .ok (.putfield i, 3)) (kk : VJ X G (v_sl S k j v) (pc + 3) lv st) : VJ X G S pc lv (.long v :: .ref (G.1 k) :: st) := V_putl C k ci j hk hs F.1.1 F.1.2.1 F.1.2.2.1 F.1.2.2.2.1 F.2.1 F.2.2.1 F.1.2.2.2.2.1 F.1.2.2.2.2.2.1 (by rw [F.1.2.2.2.2.2.2.1, F.1.2.2.2.2.2.2.2]; exact hw) F.2.2.2.1 F.2.2.2.2 rfl rfl hd kk
theorem V_pz (C : v_Cx X G cc own nL R) (k : Nat) {ci j i N : Nat} {Cn ref nm ds : String} {T : u_T} {ty0 : Nat → FieldType} {v : Int32} (hk : k < 145) (hs : (v_sh k).1 = ci) (F : v_FI ci j 0 j Cn T N ref nm ds ∧ v_FP j T N ty0 .boolean) (hw : Cond.fieldLink own i ref nm ds ∈ wsL_law) (hz : v_isb v) (hd : decode cc pc = .ok (.putfield i, 3)) (kk : VJ X G (v_si S k j v) (pc + 3) lv st) : VJ X G S pc lv (.int v :: .ref (G.1 k) :: st) := V_puti C k ci j hk hs F.1.1 F.1.2.1 F.1.2.2.1 F.1.2.2.2.1 F.2.1 F.2.2.1 F.1.2.2.2.2.1 F.1.2.2.2.2.2.1 (by rw [F.1.2.2.2.2.2.2.1, F.1.2.2.2.2.2.2.2]; exact hw) F.2.2.2.1 F.2.2.2.2 (v_isb_n hz) (v_isb_f hz) hd kk
theorem v_lc_eq (x y : Int64) : (lg_cmp x y = 0) ↔ x = y := by
  unfold lg_cmp
  simp only [gt_iff_lt, Int64.lt_iff_toInt_lt, Int64.le_iff_toInt_le, ← Int64.toInt_inj]
  repeat' split
  all_goals first | (simp; omega) | (simp_all; done) | (simp_all; omega) | (constructor <;> intro h <;> first | omega | (exact absurd h (by decide)))
theorem v_lc_lt (x y : Int64) : (lg_cmp x y < 0) ↔ x < y := by
  unfold lg_cmp
  simp only [gt_iff_lt, Int64.lt_iff_toInt_lt, Int64.le_iff_toInt_le, ← Int64.toInt_inj]
  repeat' split
  all_goals first | (simp; omega) | (simp_all; done) | (simp_all; omega) | (constructor <;> intro h <;> first | omega | (exact absurd h (by decide)))
theorem v_lc_ge (x y : Int64) : (0 ≤ lg_cmp x y) ↔ y ≤ x := by
  unfold lg_cmp
  simp only [gt_iff_lt, Int64.lt_iff_toInt_lt, Int64.le_iff_toInt_le, ← Int64.toInt_inj]
  repeat' split
  all_goals first | (simp; omega) | (simp_all; done) | (simp_all; omega) | (constructor <;> intro h <;> first | omega | (exact absurd h (by decide)))
theorem v_lc_gt (x y : Int64) : (0 < lg_cmp x y) ↔ y < x := by
  unfold lg_cmp
  simp only [gt_iff_lt, Int64.lt_iff_toInt_lt, Int64.le_iff_toInt_le, ← Int64.toInt_inj]
  repeat' split
  all_goals first | (simp; omega) | (simp_all; done) | (simp_all; omega) | (constructor <;> intro h <;> first | omega | (exact absurd h (by decide)))
theorem v_lc_le (x y : Int64) : (lg_cmp x y ≤ 0) ↔ x ≤ y := by
  unfold lg_cmp
  simp only [gt_iff_lt, Int64.lt_iff_toInt_lt, Int64.le_iff_toInt_le, ← Int64.toInt_inj]
  repeat' split
  all_goals first | (simp; omega) | (simp_all; done) | (simp_all; omega) | (constructor <;> intro h <;> first | omega | (exact absurd h (by decide)))
theorem V_lcmp_eq (C : v_Cx X G cc own nL R) {x y : Int64} {off : Int} {tgt : Nat} (hd : decode cc pc = .ok (.lcmp, 1)) (hd2 : decode cc (pc + 1) = .ok (.ifCond .eq off, 3)) (ht : ((pc + 1 : Nat) : Int) + off = (tgt : Int)) (kt : x = y → VJ X G S tgt lv st) (kf : ¬ x = y → VJ X G S (pc + 4) lv st) : VJ X G S pc lv (.long y :: .long x :: st) := V_lcmp C hd (V_if_eq C hd2 ht (fun c => kt ((v_lc_eq x y).mp c)) (fun c => kf (fun z => c ((v_lc_eq x y).mpr z))))
theorem V_lcmp_ne (C : v_Cx X G cc own nL R) {x y : Int64} {off : Int} {tgt : Nat} (hd : decode cc pc = .ok (.lcmp, 1)) (hd2 : decode cc (pc + 1) = .ok (.ifCond .ne off, 3)) (ht : ((pc + 1 : Nat) : Int) + off = (tgt : Int)) (kt : ¬ x = y → VJ X G S tgt lv st) (kf : x = y → VJ X G S (pc + 4) lv st) : VJ X G S pc lv (.long y :: .long x :: st) := V_lcmp C hd (V_if_ne C hd2 ht (fun c => kt (fun z => c ((v_lc_eq x y).mpr z))) (fun c => kf ((v_lc_eq x y).mp c)))
theorem V_lcmp_lt (C : v_Cx X G cc own nL R) {x y : Int64} {off : Int} {tgt : Nat} (hd : decode cc pc = .ok (.lcmp, 1)) (hd2 : decode cc (pc + 1) = .ok (.ifCond .lt off, 3)) (ht : ((pc + 1 : Nat) : Int) + off = (tgt : Int)) (kt : x < y → VJ X G S tgt lv st) (kf : ¬ x < y → VJ X G S (pc + 4) lv st) : VJ X G S pc lv (.long y :: .long x :: st) := V_lcmp C hd (V_if_lt C hd2 ht (fun c => kt ((v_lc_lt x y).mp c)) (fun c => kf (fun z => c ((v_lc_lt x y).mpr z))))
theorem V_lcmp_ge (C : v_Cx X G cc own nL R) {x y : Int64} {off : Int} {tgt : Nat} (hd : decode cc pc = .ok (.lcmp, 1)) (hd2 : decode cc (pc + 1) = .ok (.ifCond .ge off, 3)) (ht : ((pc + 1 : Nat) : Int) + off = (tgt : Int)) (kt : y ≤ x → VJ X G S tgt lv st) (kf : ¬ y ≤ x → VJ X G S (pc + 4) lv st) : VJ X G S pc lv (.long y :: .long x :: st) := V_lcmp C hd (V_if_ge C hd2 ht (fun c => kt ((v_lc_ge x y).mp c)) (fun c => kf (fun z => c ((v_lc_ge x y).mpr z))))
theorem V_lcmp_gt (C : v_Cx X G cc own nL R) {x y : Int64} {off : Int} {tgt : Nat} (hd : decode cc pc = .ok (.lcmp, 1)) (hd2 : decode cc (pc + 1) = .ok (.ifCond .gt off, 3)) (ht : ((pc + 1 : Nat) : Int) + off = (tgt : Int)) (kt : y < x → VJ X G S tgt lv st) (kf : ¬ y < x → VJ X G S (pc + 4) lv st) : VJ X G S pc lv (.long y :: .long x :: st) := V_lcmp C hd (V_if_gt C hd2 ht (fun c => kt ((v_lc_gt x y).mp c)) (fun c => kf (fun z => c ((v_lc_gt x y).mpr z))))
theorem V_lcmp_le (C : v_Cx X G cc own nL R) {x y : Int64} {off : Int} {tgt : Nat} (hd : decode cc pc = .ok (.lcmp, 1)) (hd2 : decode cc (pc + 1) = .ok (.ifCond .le off, 3)) (ht : ((pc + 1 : Nat) : Int) + off = (tgt : Int)) (kt : x ≤ y → VJ X G S tgt lv st) (kf : ¬ x ≤ y → VJ X G S (pc + 4) lv st) : VJ X G S pc lv (.long y :: .long x :: st) := V_lcmp C hd (V_if_le C hd2 ht (fun c => kt ((v_lc_le x y).mp c)) (fun c => kf (fun z => c ((v_lc_le x y).mpr z))))
theorem V_table (C : v_Cx X G cc own nL R) {dflt lo hi : Int} {offs : Array Int} {len : Nat} {x : Int32} {tgtd : Nat} (hd : decode cc pc = .ok (.tableswitch dflt lo hi offs, len)) (ht : (pc : Int) + dflt = (tgtd : Int) ∧ hi - lo + 1 = (offs.size : Int)) (kd : x.toInt < lo ∨ hi < x.toInt → VJ X G S tgtd lv st) (kk : ∀ k, k < offs.size → x.toInt = lo + (k : Int) → ∃ tgt : Nat, (pc : Int) + offs.getD k 0 = (tgt : Int) ∧ VJ X G S tgt lv st) : VJ X G S pc lv (.int x :: st) := fun H locs ls hP hS h => by
  by_cases c : x.toInt < lo ∨ hi < x.toInt
  · exact lv_tableOut C.x C.b hd c ht.1 (kd c H locs ls hP hS h)
  · have h1 : ¬ x.toInt < lo := fun z => c (Or.inl z)
    have h2 : ¬ hi < x.toInt := fun z => c (Or.inr z)
    have hk : (x.toInt - lo).toNat < offs.size := by omega
    obtain ⟨tgt, e1, e2⟩ := kk (x.toInt - lo).toNat hk (by omega)
    refine lv_tableIn C.x C.b hd h1 h2 (off := offs.getD (x.toInt - lo).toNat 0) ?_ e1 (e2 H locs ls hP hS h)
    simp [Array.getD, hk]
/-- a switch's way by its number -/
theorem v_ieq {x : Int32} {n : Int} (v : Int32) (h : x.toInt = n) (hv : v.toInt = n) : x = v := Int32.toInt_inj.mp (h.trans hv.symm)
theorem v_iout {x : Int32} {a b : Int} (u v : Int32) (h : x.toInt < a ∨ b < x.toInt) (hu : u.toInt = a) (hv : v.toInt = b) : x < u ∨ v < x := by
  rcases h with h | h
  · exact Or.inl (Int32.lt_iff_toInt_lt.mpr (by rw [hu]; exact h))
  · exact Or.inr (Int32.lt_iff_toInt_lt.mpr (by rw [hv]; exact h))
def v_maxi (x y : Int32) : Int32 := if x < y then y else x
def v_mini (x y : Int32) : Int32 := if y < x then y else x
def v_maxl (x y : Int64) : Int64 := if y < x then x else y
def v_minl (x y : Int64) : Int64 := if y < x then y else x
def v_absl (x : Int64) : Int64 := if 0 < x then x else -x
theorem V_maxi (C : v_Cx X G cc own nL R) {x y : Int32} {i : Nat} (hw : Cond.methodLink own i Lib.Math.max.name ∈ wsL_law) (hr : (st.map fun v => v.category).sum ≤ 8) (hR : 1 ≤ R.frames ∧ 23 ≤ R.locals) (hd : decode cc pc = .ok (.invokestatic i, 3)) (kk : VJ X G S (pc + 3) lv (.int (v_maxi x y) :: st)) : VJ X G S pc lv (.int y :: .int x :: st) := fun H locs ls hP hS h => va_mmax C.x C.b (C.ml.trans h.1.symm) C.ow (C.ts _ hw) (C.ts _ (v_r26 _ (List.mem_of_getElem? (i := 19) rfl))) (C.ts _ (v_r5 _ (List.mem_of_getElem? (i := 20) rfl))) (C.ts _ (v_r26 _ (List.mem_of_getElem? (i := 20) rfl))) (by rw [C.rr]; exact hR.1) (by rw [C.rr]; omega) C.k1 C.k2 hd (kk H locs ls hP hS h)
theorem V_mini (C : v_Cx X G cc own nL R) {x y : Int32} {i : Nat} (hw : Cond.methodLink own i Lib.Math.min.name ∈ wsL_law) (hr : (st.map fun v => v.category).sum ≤ 8) (hR : 1 ≤ R.frames ∧ 23 ≤ R.locals) (hd : decode cc pc = .ok (.invokestatic i, 3)) (kk : VJ X G S (pc + 3) lv (.int (v_mini x y) :: st)) : VJ X G S pc lv (.int y :: .int x :: st) := fun H locs ls hP hS h => va_mmin C.x C.b (C.ml.trans h.1.symm) C.ow (C.ts _ hw) (C.ts _ (v_r5 _ (List.mem_of_getElem? (i := 19) rfl))) (C.ts _ (v_r5 _ (List.mem_of_getElem? (i := 20) rfl))) (C.ts _ (v_r5 _ (List.mem_of_getElem? (i := 21) rfl))) (by rw [C.rr]; exact hR.1) (by rw [C.rr]; omega) C.k1 C.k2 hd (kk H locs ls hP hS h)
theorem V_maxl (C : v_Cx X G cc own nL R) {x y : Int64} {i : Nat} (hw : Cond.methodLink own i Lib.MathLoose.max_long.x ∈ wsL_law) (hr : (st.map fun v => v.category).sum ≤ 8) (hR : 1 ≤ R.frames ∧ 23 ≤ R.locals) (hd : decode cc pc = .ok (.invokestatic i, 3)) (kk : VJ X G S (pc + 3) lv (.long (v_maxl x y) :: st)) : VJ X G S pc lv (.long y :: .long x :: st) := fun H locs ls hP hS h => va_mmax_long C.x C.b (C.ml.trans h.1.symm) C.ow (C.ts _ hw) (C.ts _ (v_r28 _ (List.mem_of_getElem? (i := 18) rfl))) (C.ts _ (v_r5 _ (List.mem_of_getElem? (i := 20) rfl))) (C.ts _ (v_r28 _ (List.mem_of_getElem? (i := 19) rfl))) (by rw [C.rr]; exact hR.1) (by rw [C.rr]; omega) C.k1 C.k2 hd (kk H locs ls hP hS h)
theorem V_minl (C : v_Cx X G cc own nL R) {x y : Int64} {i : Nat} (hw : Cond.methodLink own i Lib.MathLoose.min_long.x ∈ wsL_law) (hr : (st.map fun v => v.category).sum ≤ 8) (hR : 1 ≤ R.frames ∧ 23 ≤ R.locals) (hd : decode cc pc = .ok (.invokestatic i, 3)) (kk : VJ X G S (pc + 3) lv (.long (v_minl x y) :: st)) : VJ X G S pc lv (.long y :: .long x :: st) := fun H locs ls hP hS h => va_mmin_long C.x C.b (C.ml.trans h.1.symm) C.ow (C.ts _ hw) (C.ts _ (v_r41 _ (List.mem_of_getElem? (i := 3) rfl))) (C.ts _ (v_r5 _ (List.mem_of_getElem? (i := 20) rfl))) (C.ts _ (v_r41 _ (List.mem_of_getElem? (i := 4) rfl))) (by rw [C.rr]; exact hR.1) (by rw [C.rr]; omega) C.k1 C.k2 hd (kk H locs ls hP hS h)
theorem V_absl (C : v_Cx X G cc own nL R) {x : Int64} {i : Nat} (hw : Cond.methodLink own i Lib.MathLoose.abs_long.x ∈ wsL_law) (hr : (st.map fun v => v.category).sum ≤ 8) (hR : 1 ≤ R.frames ∧ 23 ≤ R.locals) (hd : decode cc pc = .ok (.invokestatic i, 3)) (kk : VJ X G S (pc + 3) lv (.long (v_absl x) :: st)) : VJ X G S pc lv (.long x :: st) := fun H locs ls hP hS h => va_mabs_long C.x C.b (C.ml.trans h.1.symm) C.ow (C.ts _ hw) (C.ts _ (v_r32 _ (List.mem_of_getElem? (i := 11) rfl))) (C.ts _ (v_r5 _ (List.mem_of_getElem? (i := 20) rfl))) (C.ts _ (v_r32 _ (List.mem_of_getElem? (i := 12) rfl))) (by rw [C.rr]; exact hR.1) (by rw [C.rr]; omega) C.k1 C.k2 hd (kk H locs ls hP hS h)
end VM
