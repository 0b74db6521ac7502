/-! Rounds through some towns: orders, and what is tried. -/
def kr_ol (P : Nat → Nat → Option Int) (o : Nat) : Nat → List Nat → Option Int
  | u, [] => P u o
  | u, t :: l => kr_plus (P u t) (kr_ol P o t l)
abbrev kr_S : Type := Option Int × List Nat
def kr_up (s : kr_S) (v : Option Int) (l : List Nat) : kr_S := if kr_ls v s.1 = true then (v, l) else s
def kr_os (n : Nat) : Nat → (Nat → Bool) → List (List Nat)
  | 0, _ => [[]]
  | f + 1, S => ((List.range n).filter S).flatMap (fun t => (kr_os n f (fun q => S q && !decide (q = t))).map (fun l => t :: l))
theorem kr_os_s (n f : Nat) (S : Nat → Bool) : kr_os n (f + 1) S = ((List.range n).filter S).flatMap (fun t => (kr_os n f (fun q => S q && !decide (q = t))).map (fun l => t :: l)) := rfl
/-- all orders tried behind a beginning -/
def kr_tr (P : Nat → Nat → Option Int) (o n f : Nat) (S : Nat → Bool) (u : Nat) (gone : Int) (pre : List Nat) (s : kr_S) : kr_S := (kr_os n f S).foldl (fun s l => kr_up s (kr_plus (some gone) (kr_ol P o u l)) (pre ++ l)) s
theorem kr_up_no {s : kr_S} {v : Option Int} {l : List Nat} (h : kr_ls v s.1 = false) : kr_up s v l = s := by
  unfold kr_up
  rw [h, kn_ft]
theorem kr_fold_same {α : Type} {s : kr_S} {v : α → Option Int} {w : α → List Nat} : ∀ L : List α, (∀ a, a ∈ L → kr_ls (v a) s.1 = false) → L.foldl (fun s a => kr_up s (v a) (w a)) s = s
  | [], _ => rfl
  | a :: L, h => by
    rw [List.foldl_cons, kr_up_no (h a List.mem_cons_self)]
    exact kr_fold_same L (fun b hb => h b (List.mem_cons_of_mem a hb))
theorem kr_foldl_c {α β : Type} {f g : β → α → β} (h : ∀ s a, f s a = g s a) (s : β) (L : List α) : L.foldl f s = L.foldl g s := by
  rw [show f = g from funext fun s => funext fun a => h s a]
theorem kr_plus_as (a b c : Option Int) : kr_plus a (kr_plus b c) = kr_plus (kr_plus a b) c := by
  cases a with
  | none => rfl
  | some x =>
    cases b with
    | none => rfl
    | some y =>
      cases c with
      | none => rfl
      | some z =>
        show some (x + (y + z)) = some (x + y + z)
        rw [Int.add_assoc]
def kr_tn1 (P : Nat → Nat → Option Int) (o n f : Nat) (S : Nat → Bool) (u : Nat) (gone : Int) (pre : List Nat) (s : kr_S) (t : Nat) : kr_S := match P u t with
  | none => s
  | some x => kr_tr P o n f (fun q => S q && !decide (q = t)) t (gone + x) (pre ++ [t]) s
theorem kr_tr_s (P : Nat → Nat → Option Int) (o n f : Nat) (S : Nat → Bool) (u : Nat) (gone : Int) (pre : List Nat) (s : kr_S) : kr_tr P o n (f + 1) S u gone pre s = ((List.range n).filter S).foldl (fun s t => kr_tn1 P o n f S u gone pre s t) s := by
  unfold kr_tr
  rw [kr_os_s, List.foldl_flatMap]
  refine kr_foldl_c (fun s t => ?_) s _
  rw [List.foldl_map]
  unfold kr_tn1
  cases hx : P u t with
  | none =>
    dsimp only
    refine kr_fold_same _ (fun l _ => ?_)
    show kr_ls (kr_plus (some gone) (kr_plus (P u t) (kr_ol P o t l))) s.1 = false
    rw [hx]
    rfl
  | some x =>
    dsimp only
    unfold kr_tr
    refine kr_foldl_c (fun s l => ?_) s _
    show kr_up s (kr_plus (some gone) (kr_plus (P u t) (kr_ol P o t l))) (pre ++ t :: l) = _
    rw [hx, kr_plus_as, List.append_assoc]
    rfl
theorem kr_tr_0 (P : Nat → Nat → Option Int) (o n : Nat) (S : Nat → Bool) (u : Nat) (gone : Int) (pre : List Nat) (s : kr_S) : kr_tr P o n 0 S u gone pre s = kr_up s (kr_plus (some gone) (P u o)) pre := by
  show kr_up s (kr_plus (some gone) (P u o)) (pre ++ []) = _
  rw [List.append_nil]
theorem kr_tr_same {P : Nat → Nat → Option Int} {o n f : Nat} {S : Nat → Bool} {u : Nat} {gone : Int} {pre : List Nat} {s : kr_S} (h : ∀ l, kr_ls (kr_plus (some gone) (kr_ol P o u l)) s.1 = false) : kr_tr P o n f S u gone pre s = s := kr_fold_same _ (fun l _ => h l)
theorem kr_wk_lt {g : kr_G} {n : Nat} (ht : kr_tn g n) : ∀ (l : List Nat) (u v : Nat), u < n → kr_wk g u l v → v < n
  | [], u, v, hu, h => by
    have e : u = v := h
    omega
  | r :: l, u, v, hu, h => kr_wk_lt ht l _ v (ht r h.1).2 h.2.2.2
theorem kr_ol_lo {g : kr_G} {n o : Nat} (hg : kr_good g) (ht : kr_tn g n) : ∀ (l : List Nat) (u : Nat) (z : Int), u < n → kr_ol (fun a b => kr_dst g n a b) o u l = some z → ∃ p, kr_dst g n u o = some p ∧ p ≤ z
  | [], u, z, hu, h => ⟨z, h, Int.le_refl z⟩
  | t :: l, u, z, hu, h => by
    have h' : kr_plus (kr_dst g n u t) (kr_ol (fun a b => kr_dst g n a b) o t l) = some z := h
    cases hx : kr_dst g n u t with
    | none => rw [hx] at h'; cases h'
    | some x =>
      cases hy : kr_ol (fun a b => kr_dst g n a b) o t l with
      | none => rw [hx, hy] at h'; cases h'
      | some y =>
        rw [hx, hy] at h'
        have e : some (x + y) = some z := h'
        cases e
        obtain ⟨a, ha, hwa⟩ := kr_D_wk hx
        obtain ⟨p, hp, hle⟩ := kr_ol_lo hg ht l t y (kr_wk_lt ht a u t hu ha) hy
        obtain ⟨b, hb, hwb⟩ := kr_D_wk hp
        obtain ⟨q, hq, hle2⟩ := kr_D_le hg ht hu ((kr_wk_app a b u o).mpr ⟨t, ha, hb⟩)
        rw [kr_wt_app] at hle2
        exact ⟨q, hq, by omega⟩
/-! orders of towns by orders of ranks -/
theorem kr_os_c {n : Nat} : ∀ (f : Nat) (S S' : Nat → Bool), (∀ q, q < n → S q = S' q) → kr_os n f S = kr_os n f S'
  | 0, _, _, _ => rfl
  | f + 1, S, S', h => by
    rw [kr_os_s, kr_os_s, List.filter_congr (q := S') (fun x hx => h x (List.mem_range.mp hx))]
    congr 1
    funext t
    rw [kr_os_c f (fun q => S q && !decide (q = t)) (fun q => S' q && !decide (q = t)) (fun q hq => by rw [h q hq])]
theorem kr_fmc {α β : Type} {g g' : α → List β} : ∀ L : List α, (∀ a, a ∈ L → g a = g' a) → L.flatMap g = L.flatMap g'
  | [], _ => rfl
  | a :: L, h => by
    rw [List.flatMap_cons, List.flatMap_cons, h a List.mem_cons_self, kr_fmc L (fun b hb => h b (List.mem_cons_of_mem a hb))]
theorem kr_os_T {n c : Nat} {T : Nat → Nat} {mem : Nat → Bool} (hinj : ∀ i j, i < c → j < c → T i = T j → i = j) (hmem : (List.range n).filter mem = (List.range c).map T) : ∀ (f : Nat) (S : Nat → Bool), (∀ q, S q = true → mem q = true) → kr_os n f S = (kr_os c f (fun i => S (T i))).map (List.map T)
  | 0, S, _ => rfl
  | f + 1, S, hS => by
    have e : (List.range n).filter S = ((List.range c).filter (fun i => S (T i))).map T := by
      have h1 : (List.range n).filter S = ((List.range n).filter mem).filter S := by
        rw [List.filter_filter]
        refine List.filter_congr (fun x _ => ?_)
        cases hx : S x with
        | false => rfl
        | true => rw [hS x hx]; rfl
      rw [h1, hmem, List.filter_map]
      rfl
    rw [kr_os_s, kr_os_s, e, List.flatMap_map, List.map_flatMap]
    refine kr_fmc _ (fun i hi => ?_)
    have hic : i < c := List.mem_range.mp (List.mem_filter.mp hi).1
    rw [kr_os_T hinj hmem f (fun q => S q && !decide (q = T i)) (fun q hq => hS q (by
      rw [Bool.and_eq_true] at hq
      exact hq.1)), List.map_map, List.map_map]
    rw [kr_os_c f (fun j => S (T j) && !decide (T j = T i)) (fun j => S (T j) && !decide (j = i)) (fun j hj => by
      rw [decide_eq_decide.mpr (show T j = T i ↔ j = i from ⟨fun q => hinj j i hj hic q, fun q => by rw [q]⟩)])]
    rfl
/-- the i-th of the members below t -/
def kn_en (mem : Nat → Bool) : Nat → (Nat → Nat)
  | 0 => fun _ => 0
  | t + 1 => if mem t = true then (fun i => if i = kr_cntb mem t then t else kn_en mem t i) else kn_en mem t
theorem kn_en_s (mem : Nat → Bool) (t : Nat) : kn_en mem (t + 1) = if mem t = true then (fun i => if i = kr_cntb mem t then t else kn_en mem t i) else kn_en mem t := rfl
theorem kr_cntb_s (p : Nat → Bool) (k : Nat) : kr_cntb p (k + 1) = kr_cntb p k + (if p k = true then 1 else 0) := by
  show (if p k = true then kr_cntb p k + 1 else kr_cntb p k) = _
  split <;> rfl
theorem kn_en_p (mem : Nat → Bool) : ∀ t : Nat, (∀ i, i < kr_cntb mem t → kn_en mem t i < t ∧ mem (kn_en mem t i) = true) ∧ (∀ i j, i < j → j < kr_cntb mem t → kn_en mem t i < kn_en mem t j) ∧ (List.range t).filter mem = (List.range (kr_cntb mem t)).map (kn_en mem t)
  | 0 => ⟨fun i hi => absurd hi (Nat.not_lt_zero _), fun i j _ hj => absurd hj (Nat.not_lt_zero _), rfl⟩
  | t + 1 => by
    obtain ⟨h1, h2, h3⟩ := kn_en_p mem t
    rw [kn_en_s, kr_cntb_s, List.range_succ, List.filter_append]
    by_cases hm : mem t = true
    · rw [if_pos hm, if_pos hm]
      refine ⟨fun i hi => ?_, fun i j hij hj => ?_, ?_⟩
      · by_cases e : i = kr_cntb mem t
        · rw [if_pos e]; exact ⟨by omega, hm⟩
        · rw [if_neg e]
          have := h1 i (by omega)
          exact ⟨by omega, this.2⟩
      · rw [if_neg (show ¬ i = kr_cntb mem t by omega)]
        by_cases e : j = kr_cntb mem t
        · rw [if_pos e]; exact (h1 i (by omega)).1
        · rw [if_neg e]; exact h2 i j hij (by omega)
      · rw [h3, List.range_succ, List.map_append, show List.filter mem [t] = [t] by rw [List.filter_cons_of_pos hm]; rfl]
        congr 1
        · refine List.map_congr_left (fun i hi => ?_)
          have := List.mem_range.mp hi
          rw [if_neg (by omega)]
        · show [t] = [if kr_cntb mem t = kr_cntb mem t then t else _]
          rw [if_pos rfl]
    · rw [if_neg hm, if_neg hm, show List.filter mem [t] = [] by rw [List.filter_cons_of_neg hm]; rfl, List.append_nil, Nat.add_zero]
      exact ⟨fun i hi => by have := h1 i hi; exact ⟨by omega, this.2⟩, h2, h3⟩
/-! the next order in numbers -/
def kn_pv (p : Nat → Nat) : Nat → Option Nat
  | 0 => none
  | k + 1 => if p k ≤ p (k + 1) then some k else kn_pv p k
def kn_la (p : Nat → Nat) (k : Nat) : Nat → Nat
  | 0 => 0
  | j + 1 => if p k ≤ p j then j else kn_la p k j
def kn_sw (p : Nat → Nat) (a b : Nat) : Nat → Nat := fun i => if i = b then p a else if i = a then p b else p i
def kn_rvs (p : Nat → Nat) (a b : Nat) : Nat → (Nat → Nat)
  | 0 => p
  | j + 1 => kn_sw (kn_rvs p a b j) (a + j) (b - j)
def kn_np (c : Nat) (p : Nat → Nat) : Option (Nat → Nat) := match kn_pv p (c - 1) with
  | none => none
  | some k => some (kn_rvs (kn_sw p k (kn_la p k c)) (k + 1) (c - 1) ((c - 1 - k) / 2))
def kn_Q (c : Nat) : List (List Nat) := kr_os c c (fun _ => true)
def kn_eqL (c : Nat) (q : Nat → Nat) (l : List Nat) : Bool := (List.range c).all (fun i => q i == l.getD i 0)
def kn_ch (c : Nat) : List (List Nat) → Bool
  | [] => true
  | a :: L => (match kn_np c (fun i => a.getD i 0), L with
    | none, [] => true
    | some q, b :: _ => kn_eqL c q b
    | _, _ => false) && kn_ch c L
def kn_okQ (c : Nat) : Bool := ((kn_Q c).headD [] == List.range c) && ((kn_Q c).all (fun l => l.length == c && l.all (fun x => decide (x < c))) && (decide (0 < (kn_Q c).length) && (decide ((kn_Q c).length ≤ 720) && kn_ch c (kn_Q c))))
theorem kn_okQ_all : ∀ c, c < 7 → kn_okQ c = true := by decide +kernel
