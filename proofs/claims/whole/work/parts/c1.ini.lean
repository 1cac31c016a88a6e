/-! the making of all objects: the constructors' run, once for all scripts -/
def am_x1 (o : Option am_I) : Bool := match o with
  | some (.iaload, _, a, _, _) => !(Nat.beq a 1)
  | some (.arraylength, _, a, _, _) => !(Nat.beq a 1)
  | _ => true
set_option maxRecDepth 100000 in
theorem am_x1_all : ((List.range 304).all fun mid => (am_tab mid).all fun r => r.all am_x1) = true := by decide +kernel
theorem am_x1_use {mid pc : Nat} {o : am_I} (hm : mid < 304) (h : am_cd mid pc = some o) : am_x1 (some o) = true := by
  have h2 : ((am_tab mid).getD (pc / 16) []).getD (pc % 16) none = some o := h
  have h3 := st_range am_x1_all hm
  rw [List.getD_eq_getElem?_getD] at h2
  cases hr : ((am_tab mid).getD (pc / 16) [])[pc % 16]? with
  | none => rw [hr] at h2; cases h2
  | some o' =>
    rw [hr] at h2
    have e : o' = some o := h2
    subst e
    have hm := List.mem_of_getElem? hr
    rw [List.getD_eq_getElem?_getD] at hm
    cases ht : (am_tab mid)[pc / 16]? with
    | none => rw [ht] at hm; cases hm
    | some row =>
      rw [ht] at hm
      exact List.all_eq_true.mp (List.all_eq_true.mp h3 row (List.mem_of_getElem? ht)) (some o) hm
theorem am_not1 {b : Bool} (h : (!b) = true) : b = false := by cases b <;> first | rfl | cases h
theorem am_act_env {e1 e2 : am_E} (he : e1.1 = e2.1) {d mid pc : Nat} {L : am_L} {st : List Value} {h : am_H} (hm : mid < 304) : am_act e1 (d, mid, pc, L, st, h) = am_act e2 (d, mid, pc, L, st, h) := by
  unfold am_act
  dsimp only
  cases hcd : am_cd mid pc with
  | none => rfl
  | some o =>
    obtain ⟨raw, len, a, b, cp⟩ := o
    have hx := am_x1_use hm hcd
    dsimp only
    cases raw
    case iaload =>
      have ha : Nat.beq a 1 = false := am_not1 hx
      dsimp only [am_do]
      rw [ha]
      split <;> rfl
    case arraylength =>
      have ha : Nat.beq a 1 = false := am_not1 hx
      dsimp only [am_do]
      rw [ha]
      split <;> rfl
    case new i => dsimp only [am_do]; rw [he]
    case newarray i => dsimp only [am_do]; rw [he]
    case anewarray i => dsimp only [am_do]; rw [he]
    all_goals rfl
theorem am_ex_env (HC : ∀ a, a < 304 → am_chk a = true) {e1 e2 : am_E} (he : e1.1 = e2.1) : ∀ (n : Nat) (t : am_S) (r : am_R), t.2.1 < 304 → am_ex e1 n t = some r → am_ex e2 n t = some r := by
  intro n
  induction n with
  | zero => intro t r _ h; cases h
  | succ n ih =>
    intro t r hm hr
    obtain ⟨d, mid, pc, L, st, h⟩ := t
    have hm : mid < 304 := hm
    have hr : am_F e1 (am_ex e1 n) (d, mid, pc, L, st, h) = some r := hr
    show am_F e2 (am_ex e2 n) (d, mid, pc, L, st, h) = some r
    unfold am_F at hr ⊢
    rw [am_act_env he hm] at hr
    rcases am_act_form e2 d mid pc L st h with hg | ⟨raw, len, a, b, cp, d', ok, hcd, hd, ha, hact, hkind⟩ | ⟨i, len, a, b, cp, q, hcd, hact, -, ha⟩
    · cases hA : am_act e2 (d, mid, pc, L, st, h) with
      | inl x => rw [hA] at hr; exact hr
      | inr x => cases x with
        | inl y =>
          rw [hA] at hr hg
          obtain ⟨lst, o⟩ := y
          have hr : am_br (am_ex e1 n) lst o = some r := hr
          show am_br (am_ex e2 n) lst o = some r
          rw [am_br_sel] at hr ⊢
          cases hs : am_sel lst o with
          | none => rw [hs] at hr; cases hr
          | some t' =>
            rw [hs] at hr
            have h1 := am_sel_same hg hs
            exact ih t' r (by rw [h1.2.1]; exact hm) hr
        | inr y => rw [hA] at hg; exact hg.elim
    · rw [hact] at hr ⊢
      unfold am_call at hr ⊢
      dsimp only at hr ⊢
      cases hgd : (Nat.ble b st.length && (ok (st.take b).reverse && Nat.ble (am_loc (st.take b).reverse).length (am_mi a).2.2.2.1) && Nat.ble (am_cats (st.drop b)) 8) with
      | false => rw [hgd] at hr; cases hr
      | true =>
        rw [hgd] at hr
        dsimp only [cond_true] at hr ⊢
        obtain ⟨hdec, hlk⟩ := am_cd_use (am_and3 (HC mid hm)).1 hcd
        have ha304 := am_call304 hlk ha hkind
        cases h1 : am_ex e1 n (d', a, 0, am_loc0 (st.take b).reverse (am_mi a).2.2.2.1, [], h) with
        | none => rw [h1] at hr; cases hr
        | some r1 =>
          rw [h1] at hr
          rw [ih _ r1 ha304 h1]
          obtain ⟨rb, rv, rh⟩ := r1
          cases rb with
          | false => cases hr
          | true => exact ih _ r hm hr
    · exfalso
      obtain ⟨hdec, hlk⟩ := am_cd_use (am_and3 (HC mid hm)).1 hcd
      exact am_try304 hlk ha hm
def ini_o (x : Option am_R) (n : Nat) : Bool := match x with
  | some (true, none, h) => Nat.beq h.1 n
  | _ => false
def ini_h (x : Option am_R) : am_H := match x with
  | some r => r.2.2
  | none => am_h0
theorem ini_use {x : Option am_R} {n : Nat} (h : ini_o x n = true) : x = some (true, none, ini_h x) ∧ (ini_h x).1 = n := by
  unfold ini_o at h
  split at h
  · exact ⟨rfl, Nat.eq_of_beq_eq_true h⟩
  · cases h
def ini_r1 (n : Nat) : Option am_R := am_ex (true, 0, fun _ => 0) n (99, 114, 0, am_loc0 [.ref 0] (am_mi 114).2.2.2.1, [], am_new am_h0)
def ini_1 : Option am_R := ini_r1 6000
def ini_r2 (h : am_H) (n : Nat) : Option am_R := am_ex (true, 0, fun _ => 0) n (99, 193, 0, am_loc0 [.ref 156] (am_mi 193).2.2.2.1, [], am_new h)
def ini_2 : Option am_R := ini_r2 (ini_h ini_1) 6000
theorem ini_v1 (HC : ∀ a, a < 304 → am_chk a = true) (N : Nat) (xs : Nat → Int32) (n : Nat) {r : am_R} (h : ini_r1 n = some r) : am_ev (true, N, xs) (99, 114, 0, am_loc0 [.ref 0] (am_mi 114).2.2.2.1, [], am_new am_h0) = some r := (am_ev_iff _ _ _).mpr ⟨n, am_ex_env HC (e1 := (true, 0, fun _ => 0)) (e2 := (true, N, xs)) rfl n (99, 114, 0, am_loc0 [.ref 0] (am_mi 114).2.2.2.1, [], am_new am_h0) r (show 114 < 304 by decide) h⟩
theorem ini_v2 (HC : ∀ a, a < 304 → am_chk a = true) (N : Nat) (xs : Nat → Int32) (n : Nat) {H : am_H} {r : am_R} (h : ini_r2 H n = some r) : am_ev (true, N, xs) (99, 193, 0, am_loc0 [.ref 156] (am_mi 193).2.2.2.1, [], am_new H) = some r := (am_ev_iff _ _ _).mpr ⟨n, am_ex_env HC (e1 := (true, 0, fun _ => 0)) (e2 := (true, N, xs)) rfl n (99, 193, 0, am_loc0 [.ref 156] (am_mi 193).2.2.2.1, [], am_new H) r (show 193 < 304 by decide) h⟩
set_option maxRecDepth 1000000 in
theorem ini_e1 : ini_o ini_1 156 = true := by decide +kernel
set_option maxRecDepth 1000000 in
theorem ini_e2 : ini_o ini_2 178 = true := by decide +kernel
