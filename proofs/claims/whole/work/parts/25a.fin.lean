def ini1 (i : Nat) : Nat → Int32 := match i with
  | 2 => upd (upd (upd (upd (upd (upd (upd (upd (fun _ => 0) (0 : Int32).toNatClampNeg 3) (1 : Int32).toNatClampNeg 3) (2 : Int32).toNatClampNeg 3) (3 : Int32).toNatClampNeg 3) (4 : Int32).toNatClampNeg 3) (5 : Int32).toNatClampNeg 3) (6 : Int32).toNatClampNeg 3) (7 : Int32).toNatClampNeg 3
  | 115 => upd (upd (upd (upd (upd (upd (upd (upd (fun _ => 0) (0 : Int32).toNatClampNeg 3) (1 : Int32).toNatClampNeg 3) (2 : Int32).toNatClampNeg 3) (3 : Int32).toNatClampNeg 3) (4 : Int32).toNatClampNeg 3) (5 : Int32).toNatClampNeg 3) (6 : Int32).toNatClampNeg 3) (7 : Int32).toNatClampNeg 3
  | 6 => fun k => match k with
    | 0 => 4
    | 1 => 5
    | _ => 0
  | 8 => fun k => match k with
    | 0 => 6
    | 1 => 6
    | _ => 0
  | 10 => fun k => match k with
    | 0 => 5
    | 1 => 6
    | _ => 0
  | 26 => fun k => match k with
    | 0 => 4
    | 1 => 5
    | _ => 0
  | 28 => fun k => match k with
    | 0 => 6
    | 1 => 6
    | _ => 0
  | 30 => fun k => match k with
    | 0 => 5
    | 1 => 6
    | _ => 0
  | 79 => fun k => match k with
    | 0 => 4
    | 1 => 5
    | _ => 0
  | 81 => fun k => match k with
    | 0 => 6
    | 1 => 6
    | _ => 0
  | 83 => fun k => match k with
    | 0 => 5
    | 1 => 6
    | _ => 0
  | 99 => fun k => match k with
    | 0 => 4
    | 1 => 5
    | _ => 0
  | 101 => fun k => match k with
    | 0 => 6
    | 1 => 6
    | _ => 0
  | 103 => fun k => match k with
    | 0 => 5
    | 1 => 6
    | _ => 0
  | _ => fun _ => 0
def ini2 (i : Nat) : Nat → Int64 := match i with
  | 69 => fun k => match k with
    | 2 => 1
    | _ => 0
  | 114 => fun k => match k with
    | 7 => 1
    | _ => 0
  | _ => fun _ => 0
def σ0 : St := (ini1, ini2)
theorem arrq {cA : ClassId} {n : Nat} {f g : Nat → Option Nat} (h : ∀ j, j < n → f j = g j) : vp_cell cA (n, .inr (.inr (.inr (.inr f)))) = vp_cell cA (n, .inr (.inr (.inr (.inr g)))) := by
  rw [vp_cell_q, vp_cell_q]
  unfold arrV
  congr 1
  congr 1
  funext j
  show va_rf (f j.val) = va_rf (g j.val)
  rw [h j.val j.isLt]
set_option maxRecDepth 20000 in
set_option maxHeartbeats 100000000 in
theorem fin_world (X : Cx) {H : Heap} (hP : va_P X.2.2.1 vwCl (gw X.2.1 (bX11_init X 0 ++ bX12_init X 114)) H) : va_P X.2.2.1 vwCl (wsOf X.2.1 X.2.2.2.1 σ0) H := by
  intro k q hk
  have hk1 : k < 133 := by
    have := (List.getElem?_eq_some_iff.mp hk).1
    unfold wsOf at this
    simpa using this
  rw [wsOf_get hk1] at hk
  cases hk
  match k, hk1 with
  | 0, _ => exact hP 0 _ rfl
  | 1, _ => exact hP 1 _ rfl
  | 2, _ => exact hP 2 _ rfl
  | 3, _ => exact hP 3 _ rfl
  | 4, _ => exact (hP 4 _ rfl).trans (congrArg some (arrq (fun j hj => by
      match j, hj with
      | 0, _ => rfl
      | 1, _ => rfl
      | 2, _ => rfl
      | q + 3, h => exact absurd h (by omega))))
  | 5, _ => exact (hP 5 _ rfl).trans (congrArg some (arrq (fun j hj => by
      match j, hj with
      | 0, _ => rfl
      | 1, _ => rfl
      | 2, _ => rfl
      | 3, _ => rfl
      | q + 4, h => exact absurd h (by omega))))
  | 6, _ => exact hP 6 _ rfl
  | 7, _ => exact hP 7 _ rfl
  | 8, _ => exact hP 8 _ rfl
  | 9, _ => exact hP 9 _ rfl
  | 10, _ => exact hP 10 _ rfl
  | 11, _ => exact hP 11 _ rfl
  | 12, _ => exact hP 12 _ rfl
  | 13, _ => exact hP 13 _ rfl
  | 14, _ => exact hP 14 _ rfl
  | 15, _ => exact hP 15 _ rfl
  | 16, _ => exact hP 16 _ rfl
  | 17, _ => exact hP 17 _ rfl
  | 18, _ => exact hP 18 _ rfl
  | 19, _ => exact hP 19 _ rfl
  | 20, _ => exact hP 20 _ rfl
  | 21, _ => exact hP 21 _ rfl
  | 22, _ => exact hP 22 _ rfl
  | 23, _ => exact hP 23 _ rfl
  | 24, _ => exact (hP 24 _ rfl).trans (congrArg some (arrq (fun j hj => by
      match j, hj with
      | 0, _ => rfl
      | 1, _ => rfl
      | 2, _ => rfl
      | q + 3, h => exact absurd h (by omega))))
  | 25, _ => exact (hP 25 _ rfl).trans (congrArg some (arrq (fun j hj => by
      match j, hj with
      | 0, _ => rfl
      | 1, _ => rfl
      | 2, _ => rfl
      | 3, _ => rfl
      | q + 4, h => exact absurd h (by omega))))
  | 26, _ => exact hP 26 _ rfl
  | 27, _ => exact hP 27 _ rfl
  | 28, _ => exact hP 28 _ rfl
  | 29, _ => exact hP 29 _ rfl
  | 30, _ => exact hP 30 _ rfl
  | 31, _ => exact hP 31 _ rfl
  | 32, _ => exact hP 32 _ rfl
  | 33, _ => exact hP 33 _ rfl
  | 34, _ => exact hP 34 _ rfl
  | 35, _ => exact hP 35 _ rfl
  | 36, _ => exact hP 36 _ rfl
  | 37, _ => exact hP 37 _ rfl
  | 38, _ => exact hP 38 _ rfl
  | 39, _ => exact hP 39 _ rfl
  | 40, _ => exact hP 40 _ rfl
  | 41, _ => exact (hP 41 _ rfl).trans (congrArg some (arrq (fun j hj => by
      match j, hj with
      | 0, _ => rfl
      | 1, _ => rfl
      | q + 2, h => exact absurd h (by omega))))
  | 42, _ => exact hP 42 _ rfl
  | 43, _ => exact hP 43 _ rfl
  | 44, _ => exact hP 44 _ rfl
  | 45, _ => exact hP 45 _ rfl
  | 46, _ => exact hP 46 _ rfl
  | 47, _ => exact hP 47 _ rfl
  | 48, _ => exact (hP 48 _ rfl).trans (congrArg some (arrq (fun j hj => by
      match j, hj with
      | 0, _ => rfl
      | 1, _ => rfl
      | 2, _ => rfl
      | 3, _ => rfl
      | 4, _ => rfl
      | 5, _ => rfl
      | 6, _ => rfl
      | 7, _ => rfl
      | q + 8, h => exact absurd h (by omega))))
  | 49, _ => exact hP 49 _ rfl
  | 50, _ => exact hP 50 _ rfl
  | 51, _ => exact hP 51 _ rfl
  | 52, _ => exact hP 52 _ rfl
  | 53, _ => exact hP 53 _ rfl
  | 54, _ => exact hP 54 _ rfl
  | 55, _ => exact hP 55 _ rfl
  | 56, _ => exact hP 56 _ rfl
  | 57, _ => exact hP 57 _ rfl
  | 58, _ => exact hP 58 _ rfl
  | 59, _ => exact hP 59 _ rfl
  | 60, _ => exact hP 60 _ rfl
  | 61, _ => exact hP 61 _ rfl
  | 62, _ => exact hP 62 _ rfl
  | 63, _ => exact hP 63 _ rfl
  | 64, _ => exact hP 64 _ rfl
  | 65, _ => exact hP 65 _ rfl
  | 66, _ => exact hP 66 _ rfl
  | 67, _ => exact hP 67 _ rfl
  | 68, _ => exact hP 68 _ rfl
  | 69, _ => exact hP 69 _ rfl
  | 70, _ => exact hP 70 _ rfl
  | 71, _ => exact hP 71 _ rfl
  | 72, _ => exact hP 72 _ rfl
  | 73, _ => exact hP 73 _ rfl
  | 74, _ => exact hP 74 _ rfl
  | 75, _ => exact hP 75 _ rfl
  | 76, _ => exact hP 76 _ rfl
  | 77, _ => exact (hP 77 _ rfl).trans (congrArg some (arrq (fun j hj => by
      match j, hj with
      | 0, _ => rfl
      | 1, _ => rfl
      | 2, _ => rfl
      | q + 3, h => exact absurd h (by omega))))
  | 78, _ => exact (hP 78 _ rfl).trans (congrArg some (arrq (fun j hj => by
      match j, hj with
      | 0, _ => rfl
      | 1, _ => rfl
      | 2, _ => rfl
      | 3, _ => rfl
      | q + 4, h => exact absurd h (by omega))))
  | 79, _ => exact hP 79 _ rfl
  | 80, _ => exact hP 80 _ rfl
  | 81, _ => exact hP 81 _ rfl
  | 82, _ => exact hP 82 _ rfl
  | 83, _ => exact hP 83 _ rfl
  | 84, _ => exact hP 84 _ rfl
  | 85, _ => exact hP 85 _ rfl
  | 86, _ => exact hP 86 _ rfl
  | 87, _ => exact hP 87 _ rfl
  | 88, _ => exact hP 88 _ rfl
  | 89, _ => exact hP 89 _ rfl
  | 90, _ => exact hP 90 _ rfl
  | 91, _ => exact hP 91 _ rfl
  | 92, _ => exact hP 92 _ rfl
  | 93, _ => exact hP 93 _ rfl
  | 94, _ => exact hP 94 _ rfl
  | 95, _ => exact hP 95 _ rfl
  | 96, _ => exact hP 96 _ rfl
  | 97, _ => exact (hP 97 _ rfl).trans (congrArg some (arrq (fun j hj => by
      match j, hj with
      | 0, _ => rfl
      | 1, _ => rfl
      | 2, _ => rfl
      | q + 3, h => exact absurd h (by omega))))
  | 98, _ => exact (hP 98 _ rfl).trans (congrArg some (arrq (fun j hj => by
      match j, hj with
      | 0, _ => rfl
      | 1, _ => rfl
      | 2, _ => rfl
      | 3, _ => rfl
      | q + 4, h => exact absurd h (by omega))))
  | 99, _ => exact hP 99 _ rfl
  | 100, _ => exact hP 100 _ rfl
  | 101, _ => exact hP 101 _ rfl
  | 102, _ => exact hP 102 _ rfl
  | 103, _ => exact hP 103 _ rfl
  | 104, _ => exact hP 104 _ rfl
  | 105, _ => exact hP 105 _ rfl
  | 106, _ => exact hP 106 _ rfl
  | 107, _ => exact hP 107 _ rfl
  | 108, _ => exact hP 108 _ rfl
  | 109, _ => exact hP 109 _ rfl
  | 110, _ => exact hP 110 _ rfl
  | 111, _ => exact hP 111 _ rfl
  | 112, _ => exact hP 112 _ rfl
  | 113, _ => exact hP 113 _ rfl
  | 114, _ => exact hP 114 _ rfl
  | 115, _ => exact hP 115 _ rfl
  | 116, _ => exact hP 116 _ rfl
  | 117, _ => exact hP 117 _ rfl
  | 118, _ => exact hP 118 _ rfl
  | 119, _ => exact hP 119 _ rfl
  | 120, _ => exact hP 120 _ rfl
  | 121, _ => exact hP 121 _ rfl
  | 122, _ => exact hP 122 _ rfl
  | 123, _ => exact hP 123 _ rfl
  | 124, _ => exact hP 124 _ rfl
  | 125, _ => exact hP 125 _ rfl
  | 126, _ => exact hP 126 _ rfl
  | 127, _ => exact hP 127 _ rfl
  | 128, _ => exact hP 128 _ rfl
  | 129, _ => exact hP 129 _ rfl
  | 130, _ => exact hP 130 _ rfl
  | 131, _ => exact hP 131 _ rfl
  | 132, _ => exact hP 132 _ rfl
  | q + 133, h => exact absurd h (by omega)
