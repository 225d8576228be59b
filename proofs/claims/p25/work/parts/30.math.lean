/-! THE MATHEMATICAL STATE, to which class and reference are both tied -/
/-- an asker: item, TICK at which it began, its value (a STORE) or none (a LOAD), its LOAD's number -/
abbrev mQ : Type := Nat × Nat × Option Int32 × Nat
/-- ints by kind and place (25 told, 26 far, 27 items, 28 changed, 29 where, 30 due, 39 many, 40 often, 41 got, 42 waits, 43 ticks); rows; fetches; askers; sum of waits, of squares; cost -/
abbrev mS : Type := (Nat → Nat → Int32) × (Nat → List Nat) × List Nat × (Nat → List mQ) × Int64 × Int64 × UInt32
abbrev m_I (A : mS) : Nat → Nat → Int32 := A.1
abbrev m_R (A : mS) : Nat → List Nat := A.2.1
abbrev m_F (A : mS) : List Nat := A.2.2.1
abbrev m_Q (A : mS) : Nat → List mQ := A.2.2.2.1
abbrev m_W (A : mS) : Int64 := A.2.2.2.2.1
abbrev m_X (A : mS) : Int64 := A.2.2.2.2.2.1
abbrev m_C (A : mS) : UInt32 := A.2.2.2.2.2.2
def m_i (A : mS) (k s : Nat) (v : Int32) : mS := (fun q t => if q = k ∧ t = s then v else A.1 q t, A.2)
def m_r (A : mS) (r : Nat) (l : List Nat) : mS := (A.1, fun q => if q = r then l else A.2.1 q, A.2.2)
def m_f (A : mS) (l : List Nat) : mS := (A.1, A.2.1, l, A.2.2.2)
def m_q (A : mS) (b : Nat) (l : List mQ) : mS := (A.1, A.2.1, A.2.2.1, fun q => if q = b then l else A.2.2.2.1 q, A.2.2.2.2)
def m_wx (A : mS) (w x : Int64) : mS := (A.1, A.2.1, A.2.2.1, A.2.2.2.1, w, x, A.2.2.2.2.2.2)
def m_c (A : mS) (c : UInt32) : mS := (A.1, A.2.1, A.2.2.1, A.2.2.2.1, A.2.2.2.2.1, A.2.2.2.2.2.1, c)
abbrev m_T (A : mS) : Nat := (A.1 40 9).toNatClampNeg
/-- is ITEM j among those CHANGED -/
abbrev m_bit (x : Int32) (j : Nat) : Int32 := x >>> (nI j &&& 31) &&& 1
abbrev m_half (L : Int32) : Int32 := if 1 < L then L / 2 else 1
def m_tal (A : mS) (w : Nat) (p : UInt32) : mS := m_c (m_i A 40 w (A.1 40 w + 1)) (FP.fadd (m_C A) p)
def m_far (A : mS) (b : Nat) : mS := (fun q t => if q = 26 ∧ t / 4 = b ∧ m_bit (A.1 28 b) (t % 4) = 1 then A.1 27 t else if (q = 28 ∨ q = 29) ∧ t = b then 0 else A.1 q t, A.2)
def m_gone (A : mS) (b : Nat) : mS := m_tal (m_far A b) 6 1079194419
def m_out (A : mS) (b : Nat) : mS :=
  if A.1 28 b = 0 then m_i A 29 b 0
  else if A.1 39 1 < A.1 25 1 then m_i (m_i (m_i A 29 b 2) 30 b (A.1 40 9 + m_half (A.1 25 4))) 39 1 (A.1 39 1 + 1)
  else m_gone (m_i A 40 5 (A.1 40 5 + 1)) b
def m_room (A : mS) (r : Nat) : mS := if (m_R A r).length < (A.1 25 0).toNatClampNeg then A else match (m_R A r).getLast? with
  | none => A
  | some b => m_out (m_r A r (m_R A r).dropLast) b
def m_near (A : mS) (b : Nat) : mS := m_i (m_r (m_room A (b % 4)) (b % 4) (b :: m_R (m_room A (b % 4)) (b % 4))) 29 b 1
def m_gets (A : mS) (load b j frm : Nat) : mS :=
  let w : Int32 := A.1 40 9 - nI frm
  let A1 := m_i A 40 8 (A.1 40 8 + 1)
  let A2 := m_wx A1 (m_W A + w.toInt64) (m_X A + w.toInt64 * w.toInt64)
  let A3 := m_i A2 39 2 (if A.1 39 2 < w then w else A.1 39 2)
  if load < 200 then m_i (m_i A3 41 load (A.1 27 (4 * b + j))) 42 load w else A3
def m_lay (A : mS) (b j : Nat) (v : Int32) : mS := m_i (m_i A 27 (4 * b + j) v) 28 b (A.1 28 b ||| (1 : Int32) <<< (nI j &&& 31))
def m_serve (b : Nat) (A : mS) (q : mQ) : mS := match q.2.2.1 with
  | some v => m_lay A b q.1 v
  | none => m_gets A q.2.2.2 b q.1 q.2.1
def m_take (A : mS) (b : Nat) : mS := (fun q t => if q = 27 ∧ t / 4 = b then A.1 26 t else if q = 28 ∧ t = b then 0 else A.1 q t, A.2)
def m_come (A : mS) (b : Nat) : mS :=
  let A1 := m_near (m_take (m_f A ((m_F A).erase b)) b) b
  m_q ((m_Q A b).foldl (m_serve b) A1) b []
def m_p1 (A : mS) (b : Nat) : mS := if A.1 29 b = 2 ∧ A.1 30 b = A.1 40 9 then m_gone (m_i A 39 1 (A.1 39 1 - 1)) b else A
def m_p2 (A : mS) (b : Nat) : mS := if A.1 29 b = 3 ∧ A.1 30 b = A.1 40 9 then m_come A b else A
def m_tick (A : mS) : mS := m_i A 40 9 (A.1 40 9 + 1)
def m_pass (A : mS) : mS := (List.range 16).foldl m_p2 ((List.range 16).foldl m_p1 (m_tick A))
/-- the number of the LOAD that begins next -/
abbrev m_N (A : mS) : Nat := (A.1 40 7).toNatClampNeg
def m_begun (A : mS) : mS :=
  let A1 := m_i A 40 7 (A.1 40 7 + 1)
  if m_N A < 200 then m_i (m_i (m_i A1 41 (m_N A) (-1)) 42 (m_N A) (-1)) 43 (m_N A) (A.1 40 9) else A1
/-- at once: of a box that is near -/
def m_do (A : mS) (b j : Nat) (v : Option Int32) : mS := match v with
  | some x => m_lay A b j x
  | none => m_gets (m_begun A) (m_N A) b j (m_T A)
/-- one more asker -/
def m_join (A : mS) (b j : Nat) (v : Option Int32) : mS :=
  let A1 := m_q A b (m_Q A b ++ [(j, m_T A, v, m_N A)])
  match v with
  | some _ => A1
  | none => m_begun A1
def m_use (A : mS) (b : Nat) : mS := m_r A (b % 4) (b :: (m_R A (b % 4)).erase b)
/-- what is to be done: a FENCE, or box, item, value of a STORE -/
abbrev mR : Type := Option (Nat × Nat × Option Int32)
def m_can (A : mS) (q : mR) : Bool := match q with
  | none => decide (m_F A = [] ∧ A.1 39 1 = 0)
  | some (b, _, _) => if A.1 29 b = 3 then decide ((m_Q A b).length ≠ (A.1 25 3).toNatClampNeg) else if A.1 29 b = 0 then decide ((m_F A).length ≠ (A.1 25 2).toNatClampNeg) else true
def m_go (A : mS) (q : mR) : mS := match q with
  | none => A
  | some (b, j, v) =>
    if A.1 29 b = 1 then m_tal (m_do (m_use A b) b j v) 0 1069547520
    else if A.1 29 b = 2 then m_tal (m_do (m_near (m_i A 39 1 (A.1 39 1 - 1)) b) b j v) 3 1074266112
    else if A.1 29 b = 3 then m_tal (m_join A b j v) 1 1048576000
    else m_tal (m_join (m_f (m_i (m_i A 29 b 3) 30 b (A.1 40 9 + A.1 25 4)) (m_F A ++ [b])) b j v) 2 1083703296
def m_stall (A : mS) : mS := m_tal A 4 1036831949
def m_beg : Nat → mS → mR → mS
  | 0, A, _ => A
  | n + 1, A, q => if m_can (m_pass A) q then m_go (m_pass A) q else m_beg n (m_stall (m_pass A)) q
def m_idle : Nat → mS → mS
  | 0, A => A
  | n + 1, A => m_idle n (m_pass A)
/-- all as at first, but what is told -/
def m_new (A : mS) : mS :=
  (fun q t => if q = 26 then nI (5 * (t / 4) + t % 4) else if q = 28 ∨ q = 29 ∨ q = 39 ∨ q = 40 then 0 else A.1 q t,
   fun _ => [], [], fun _ => [], 0, 0, 0)
/-! what always holds -/
def m_ok (A : mS) : Prop :=
  -- what is told
  ((∃ P, A.1 25 0 = nI P ∧ 1 ≤ P ∧ P ≤ 3) ∧ (∃ P, A.1 25 1 = nI P ∧ P ≤ 3) ∧ (∃ P, A.1 25 2 = nI P ∧ 1 ≤ P ∧ P ≤ 4) ∧ (∃ P, A.1 25 3 = nI P ∧ 1 ≤ P ∧ P ≤ 4) ∧ (∃ P, A.1 25 4 = nI P ∧ 1 ≤ P ∧ P ≤ 20)) ∧
  -- boxes' places
  ((∀ b, b < 16 → A.1 29 b = 0 ∨ A.1 29 b = 1 ∨ A.1 29 b = 2 ∨ A.1 29 b = 3) ∧ (∀ b, b < 16 → A.1 29 b = 0 ∨ A.1 29 b = 3 → A.1 28 b = 0)) ∧
  -- rows
  (∀ r, r < 4 → (m_R A r).Nodup ∧ (∀ b, b ∈ m_R A r ↔ b < 16 ∧ b % 4 = r ∧ A.1 29 b = 1) ∧ (m_R A r).length ≤ (A.1 25 0).toNatClampNeg) ∧
  -- fetches
  ((m_F A).Nodup ∧ (∀ b, b ∈ m_F A ↔ b < 16 ∧ A.1 29 b = 3) ∧ (m_F A).length ≤ (A.1 25 2).toNatClampNeg ∧ (m_F A).Pairwise (fun a b => (A.1 30 a).toNatClampNeg < (A.1 30 b).toNatClampNeg)) ∧
  -- askers
  ((∀ b, b < 16 → A.1 29 b ≠ 3 → m_Q A b = []) ∧ (∀ b, b < 16 → (m_Q A b).length ≤ (A.1 25 3).toNatClampNeg ∧ ∀ q ∈ m_Q A b, q.1 < 4 ∧ q.2.1 ≤ m_T A)) ∧
  -- the shelf
  A.1 39 1 = nI ((List.range 16).countP (fun b => A.1 29 b = 2)) ∧
  -- counts
  (A.1 40 9 = nI (m_T A) ∧ A.1 40 7 = nI (m_N A) ∧ A.1 40 8 = nI (A.1 40 8).toNatClampNeg ∧ m_N A ≤ m_T A)
/-- between TICKS: nothing is over its time -/
def m_due (A : mS) : Prop := ∀ b, b < 16 → A.1 29 b = 2 ∨ A.1 29 b = 3 → A.1 30 b = nI (A.1 30 b).toNatClampNeg ∧ m_T A < (A.1 30 b).toNatClampNeg ∧ (A.1 30 b).toNatClampNeg ≤ m_T A + 20 ∧ (A.1 29 b = 2 → (A.1 30 b).toNatClampNeg ≤ m_T A + 10)
