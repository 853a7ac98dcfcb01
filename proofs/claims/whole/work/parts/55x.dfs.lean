/-! ROUND: all rows, one behind another -/
abbrev Bs : Type := Nat × Nat × Nat × (Nat → Nat)
def vis (B : Bs) (k w h : Nat) (R : Nat → Nat) : Bs := if B.2.1 < w ∨ (w = B.2.1 ∧ h < B.2.2.1) then (k, w, h, R) else B
def onW (o : Option Wy) (B : Bs) (f : Wy → Bs) : Bs := match o with
  | none => B
  | some W => f W
def kid (wh pl fm tl wo : Nat → Nat) (rec' : Wy → Nat → Nat → Nat → (Nat → Nat) → Bs → Bs) (W : Wy) (op w k : Nat) (R : Nat → Nat) (e : Nat) (B : Bs) : Bs := if op.testBit e = true then onW (wst wh pl fm tl W e) B (fun W' => rec' W' (op ^^^ 2 ^ e) (w + wo e) (k + 1) (upR R k e) B) else B
def kids (wh pl fm tl wo : Nat → Nat) (rec' : Wy → Nat → Nat → Nat → (Nat → Nat) → Bs → Bs) (W : Wy) (op w k : Nat) (R : Nat → Nat) : Nat → Nat → Bs → Bs
  | 0, _, B => B
  | j + 1, e, B => kids wh pl fm tl wo rec' W op w k R j (e + 1) (kid wh pl fm tl wo rec' W op w k R e B)
def dfs (nd : Nat) (wh pl fm tl wo : Nat → Nat) : Nat → Wy → Nat → Nat → Nat → (Nat → Nat) → Nat → Nat → Bs → Bs
  | 0, _, _, _, _, _, _, _, B => B
  | m + 1, W, op, w, k, R, j, e, B => kids wh pl fm tl wo (fun W' op' w' k' R' B' => dfs nd wh pl fm tl wo m W' op' w' k' R' nd 0 (vis B' k' w' (yH W') R')) W op w k R j e B
theorem kids_skip {wh pl fm tl wo : Nat → Nat} {rec' : Wy → Nat → Nat → Nat → (Nat → Nat) → Bs → Bs} {W : Wy} {op w k : Nat} {R : Nat → Nat} : ∀ (d j e : Nat) (B : Bs), (∀ x, e ≤ x → x < e + d → op.testBit x = true → wst wh pl fm tl W x = none) → kids wh pl fm tl wo rec' W op w k R (j + d) e B = kids wh pl fm tl wo rec' W op w k R j (e + d) B := by
  intro d
  induction d with
  | zero => intro j e B _; rfl
  | succ d ih =>
    intro j e B h
    rw [show j + (d + 1) = (j + d) + 1 by omega, kids]
    have hk : kid wh pl fm tl wo rec' W op w k R e B = B := by
      unfold kid
      by_cases q : op.testBit e = true
      · rw [if_pos q, h e (Nat.le_refl _) (by omega) q]
        rfl
      · rw [if_neg q]
    rw [hk, ih j (e + 1) B (fun x a b c => h x (by omega) (by omega) c), show e + 1 + d = e + (d + 1) by omega]
/-! what even a straight way can't better need not be tried -/
def sbg (pl fm : Nat → Nat) (W : Wy) (e : Nat) : Nat := max (yH W + dist (yS W) (pl e)) (fm e)
def feB (pl fm tl : Nat → Nat) (W : Wy) (op e : Nat) : Bool := op.testBit e && decide (sbg pl fm W e ≤ tl e)
def mst (pl fm tl wo : Nat → Nat) (W : Wy) (op : Nat) (n : Nat) : Nat := sm (fun e => if feB pl fm tl W op e = true then wo e else 0) n
def mxs (pl fm tl : Nat → Nat) (W : Wy) (op : Nat) : Nat → Nat
  | 0 => yH W
  | n + 1 => if feB pl fm tl W op n = true then max (mxs pl fm tl W op n) (sbg pl fm W n) else mxs pl fm tl W op n
theorem mxs_le {pl fm tl : Nat → Nat} {W : Wy} {op c : Nat} (h : yH W ≤ c) : ∀ n, (∀ e, e < n → feB pl fm tl W op e = true → sbg pl fm W e ≤ c) → mxs pl fm tl W op n ≤ c
  | 0, _ => h
  | n + 1, h2 => by
    have h3 := mxs_le h n (fun e he => h2 e (by omega))
    rw [mxs]
    by_cases q : feB pl fm tl W op n = true
    · rw [if_pos q]
      have := h2 n (by omega) q
      omega
    · rw [if_neg q]
      exact h3
theorem mxs_h {pl fm tl : Nat → Nat} {W : Wy} {op : Nat} : ∀ n, yH W ≤ mxs pl fm tl W op n
  | 0 => Nat.le_refl _
  | n + 1 => by
    have h3 := mxs_h (pl := pl) (fm := fm) (tl := tl) (W := W) (op := op) n
    rw [mxs]
    split <;> omega
theorem mxs_at {pl fm tl : Nat → Nat} {W : Wy} {op e : Nat} (h : feB pl fm tl W op e = true) : ∀ n, e < n → sbg pl fm W e ≤ mxs pl fm tl W op n
  | 0, h2 => by omega
  | n + 1, h2 => by
    rw [mxs]
    by_cases q : e = n
    · subst q
      rw [if_pos h]
      omega
    · have h3 := mxs_at h n (by omega)
      split <;> omega
theorem dist_tri (x y z : Nat) : dist x z ≤ dist x y + dist y z := by
  unfold dist
  split <;> split <;> split <;> omega
def Prn (nd : Nat) (pl fm tl wo : Nat → Nat) (B : Bs) (W : Wy) (op w : Nat) : Prop := w + mst pl fm tl wo W op nd ≤ B.2.1 ∧ (w + mst pl fm tl wo W op nd = B.2.1 → B.2.2.1 ≤ mxs pl fm tl W op nd)
section PRUNE
variable {np nd po fr : Nat} {hm wh pl fm tl wo : Nat → Nat}
theorem prn_kid (hPV : PV np nd po fr hm wh pl fm tl wo) {B : Bs} {W W' : Wy} {op w e : Nat} (hW : WV np W) (he : e < nd) (hb : op.testBit e = true) (hs : wst wh pl fm tl W e = some W') (hP : Prn nd pl fm tl wo B W op w) : Prn nd pl fm tl wo B W' (op ^^^ 2 ^ e) (w + wo e) := by
  obtain ⟨v1, v2, v3, v4, v5⟩ := wst_V hPV hW he hs
  obtain ⟨hP1, hP2⟩ := hP
  have hH : yH W' = wbg wh pl fm W e := by rw [v2]; rfl
  have hS : yS W' = pl e := by rw [v2]; rfl
  have hge : yH W + dist (yS W) (yA W (wh e)) + dist (yA W (wh e)) (pl e) ≤ yH W' := by
    rw [hH]
    unfold wbg
    omega
  have hfe : fm e ≤ yH W' := by
    rw [hH]
    unfold wbg
    omega
  have hdir : yH W + dist (yS W) (pl e) ≤ yH W' := by
    have := dist_tri (yS W) (yA W (wh e)) (pl e)
    omega
  have hse : sbg pl fm W e ≤ yH W' := by
    unfold sbg
    omega
  have hmono : ∀ x, sbg pl fm W x ≤ sbg pl fm W' x := fun x => by
    have := dist_tri (yS W) (pl e) (pl x)
    unfold sbg
    rw [hS]
    omega
  have hFe : feB pl fm tl W op e = true := by
    unfold feB
    rw [hb, decide_eq_true (show sbg pl fm W e ≤ tl e by omega)]
    rfl
  have hsub : ∀ x, feB pl fm tl W' (op ^^^ 2 ^ e) x = true → feB pl fm tl W op x = true ∧ ¬ x = e := fun x hx => by
    unfold feB at hx
    rw [Bool.and_eq_true, decide_eq_true_iff, tb_xor] at hx
    obtain ⟨x1, x2⟩ := hx
    have xe : ¬ x = e := fun z => by
      rw [z, hb, decide_eq_true rfl] at x1
      cases x1
    refine ⟨?_, xe⟩
    rw [decide_eq_false (fun z => xe z.symm), Bool.bne_false] at x1
    have := hmono x
    unfold feB
    rw [x1, decide_eq_true (show sbg pl fm W x ≤ tl x by omega)]
    rfl
  have hset : sm (fun x => if x = e then 0 else if feB pl fm tl W op x = true then wo x else 0) nd + wo e = mst pl fm tl wo W op nd := by
    have h := sm_set (f := fun x => if feB pl fm tl W op x = true then wo x else 0) (g := fun x => if x = e then 0 else if feB pl fm tl W op x = true then wo x else 0) nd he (fun k _ hk => if_neg hk)
    have h1 : (if feB pl fm tl W op e = true then wo e else 0) = wo e := if_pos hFe
    have h2 : (if e = e then 0 else if feB pl fm tl W op e = true then wo e else 0) = 0 := if_pos rfl
    have h3 : sm (fun x => if x = e then 0 else if feB pl fm tl W op x = true then wo x else 0) nd + (if feB pl fm tl W op e = true then wo e else 0) = mst pl fm tl wo W op nd + (if e = e then 0 else if feB pl fm tl W op e = true then wo e else 0) := h
    rw [h2, h1] at h3
    exact h3
  have hpt : ∀ x, x < nd → (if feB pl fm tl W' (op ^^^ 2 ^ e) x = true then wo x else 0) ≤ (if x = e then 0 else if feB pl fm tl W op x = true then wo x else 0) := fun x hx => by
    by_cases q : feB pl fm tl W' (op ^^^ 2 ^ e) x = true
    · obtain ⟨q1, q2⟩ := hsub x q
      rw [if_pos q, if_neg q2, if_pos q1]
      exact Nat.le_refl _
    · rw [if_neg q]
      exact Nat.zero_le _
  have hle : mst pl fm tl wo W' (op ^^^ 2 ^ e) nd ≤ sm (fun x => if x = e then 0 else if feB pl fm tl W op x = true then wo x else 0) nd := sm_pt nd hpt
  by_cases q : ∃ x, x < nd ∧ feB pl fm tl W op x = true ∧ ¬ x = e ∧ ¬ feB pl fm tl W' (op ^^^ 2 ^ e) x = true
  · obtain ⟨x, x1, x2, x3, x4⟩ := q
    have hwo := (hPV.2.2.2.2.2 x x1).2.2.2.2.1
    have hlt : mst pl fm tl wo W' (op ^^^ 2 ^ e) nd + 1 ≤ sm (fun x => if x = e then 0 else if feB pl fm tl W op x = true then wo x else 0) nd := sm_lt (j := x) nd x1 (by
      show (if feB pl fm tl W' (op ^^^ 2 ^ e) x = true then wo x else 0) + 1 ≤ (if x = e then 0 else if feB pl fm tl W op x = true then wo x else 0)
      rw [if_neg x4, if_neg x3, if_pos x2]
      omega) hpt
    refine ⟨by omega, fun z => by omega⟩
  · refine ⟨by omega, fun z => ?_⟩
    have h1 := hP2 (by omega)
    refine Nat.le_trans h1 (mxs_le (Nat.le_trans v3 (mxs_h nd)) nd (fun x hx hx2 => ?_))
    by_cases z2 : x = e
    · subst z2
      exact Nat.le_trans hse (mxs_h nd)
    · have h2 : feB pl fm tl W' (op ^^^ 2 ^ e) x = true := Classical.byContradiction (fun h3 => q ⟨x, hx, hx2, z2, h3⟩)
      exact Nat.le_trans (hmono x) (mxs_at h2 nd hx)
theorem prn_vis (hPV : PV np nd po fr hm wh pl fm tl wo) {B : Bs} {W : Wy} {op w : Nat} (hP : Prn nd pl fm tl wo B W op w) (k : Nat) (R : Nat → Nat) : vis B k w (yH W) R = B := by
  obtain ⟨hP1, hP2⟩ := hP
  unfold vis
  refine if_neg ?_
  rintro (h | ⟨h1, h2⟩)
  · omega
  · have h3 := hP2 (by omega)
    have h4 : mxs pl fm tl W op nd ≤ yH W := mxs_le (Nat.le_refl _) nd (fun e he he2 => by
      have h5 : (if feB pl fm tl W op e = true then wo e else 0) ≤ mst pl fm tl wo W op nd := sm_at (f := fun e => if feB pl fm tl W op e = true then wo e else 0) nd he
      rw [if_pos he2] at h5
      have := (hPV.2.2.2.2.2 e he).2.2.2.2.1
      omega)
    omega
theorem prn_dfs (hPV : PV np nd po fr hm wh pl fm tl wo) {B : Bs} : ∀ (m : Nat) (W : Wy) (op w k : Nat) (R : Nat → Nat), WV np W → Prn nd pl fm tl wo B W op w → ∀ j e, j + e = nd → dfs nd wh pl fm tl wo m W op w k R j e B = B := by
  intro m
  induction m with
  | zero => intros; rfl
  | succ m ih =>
    intro W op w k R hW hP j
    induction j with
    | zero => intro e _; rfl
    | succ j ihj =>
      intro e he
      have hk : kid wh pl fm tl wo (fun W' op' w' k' R' B' => dfs nd wh pl fm tl wo m W' op' w' k' R' nd 0 (vis B' k' w' (yH W') R')) W op w k R e B = B := by
        unfold kid
        by_cases q : op.testBit e = true
        · rw [if_pos q]
          cases q2 : wst wh pl fm tl W e with
          | none => rfl
          | some W' =>
            have hP' := prn_kid hPV hW (show e < nd by omega) q q2 hP
            have hW' := (wst_V hPV hW (show e < nd by omega) q2).1
            show dfs nd wh pl fm tl wo m W' (op ^^^ 2 ^ e) (w + wo e) (k + 1) (upR R k e) nd 0 (vis B (k + 1) (w + wo e) (yH W') (upR R k e)) = B
            rw [prn_vis hPV hP']
            exact ih W' _ _ _ _ hW' hP' nd 0 (by omega)
        · rw [if_neg q]
      rw [dfs, kids, hk]
      exact ihj (e + 1) (by omega)
end PRUNE
