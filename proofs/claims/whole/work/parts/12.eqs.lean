def jT00 (n : Nat) : jm_T := fun i => (0, ([5, 5, 8, 4, 4, 4, 8, 4] : List Nat).getD i (min n 3584))
def jI00 (xs : Nat → Int32) : jm_I := fun i => match i with
  | 0 => fun j => ([0, 1000, 1, 0, 0] : List Int32).getD j 0
  | 1 => fun j => ([2000, 99999999, 60, 9999, 999] : List Int32).getD j 0
  | 2 => fun j => ([0, 3, 4, 3, 0, (-3), (-4), (-3)] : List Int32).getD j 0
  | 3 => fun j => ([6, 4, 4, 4] : List Int32).getD j 0
  | 4 => fun j => ([(-99), (-99), 0, (-43200)] : List Int32).getD j 0
  | 5 => fun j => ([99, 99, 999999999, 43200] : List Int32).getD j 0
  | 6 => fun j => ([3, 999, 7, 5, 3, 3, 19999, 99999] : List Int32).getD j 0
  | 7 => fun j => ([1, 7, 49, 343] : List Int32).getD j 0
  | 8 => xs
  | _ => fun _ => 0
def jT0c0 (n : Nat) : jm_T := jm_uA (jm_uA (jm_uA (jm_uA (jm_uA (jm_uA (jm_uA (jm_uA (jm_uA (jm_uA (jm_uA (jm_uA (jm_uA (jm_uA (jm_uA (jm_uA (jT00 n) 9 (13, 9)) 10 (12, 5)) 11 (0, 5)) 12 (6, 8)) 13 (2, 4)) 14 (0, 4)) 15 (0, 4)) 16 (0, 4)) 17 (0, 4)) 18 (0, 16)) 19 (0, 4)) 20 (0, 4)) 21 (10, 4)) 22 (0, 6)) 23 (0, 4)) 24 (0, 4)
def jT0c1 (n : Nat) : jm_T := jm_uA (jm_uA (jm_uA (jm_uA (jm_uA (jm_uA (jm_uA (jm_uA (jm_uA (jm_uA (jm_uA (jm_uA (jm_uA (jm_uA (jm_uA (jm_uA (jT0c0 n) 25 (0, 4)) 26 (7, 9)) 27 (0, 40)) 28 (0, 40)) 29 (0, 40)) 30 (0, 40)) 31 (0, 40)) 32 (0, 40)) 33 (0, 40)) 34 (0, 160)) 35 (8, 3)) 36 (0, 24)) 37 (0, 8)) 38 (12, 5)) 39 (0, 5)) 40 (6, 8)
def jT0c2 (n : Nat) : jm_T := jm_uA (jm_uA (jm_uA (jm_uA (jm_uA (jm_uA (jm_uA (jm_uA (jm_uA (jm_uA (jm_uA (jm_uA (jm_uA (jm_uA (jm_uA (jm_uA (jT0c1 n) 41 (2, 4)) 42 (0, 4)) 43 (0, 4)) 44 (0, 4)) 45 (0, 4)) 46 (0, 16)) 47 (0, 4)) 48 (0, 4)) 49 (10, 4)) 50 (0, 6)) 51 (0, 4)) 52 (0, 4)) 53 (0, 4)) 54 (7, 9)) 55 (0, 40)) 56 (0, 40)
def jT0c3 (n : Nat) : jm_T := jm_uA (jm_uA (jm_uA (jm_uA (jm_uA (jm_uA (jm_uA (jm_uA (jm_uA (jm_uA (jm_uA (jm_uA (jm_uA (jm_uA (jm_uA (jm_uA (jT0c2 n) 57 (0, 40)) 58 (0, 40)) 59 (0, 40)) 60 (0, 40)) 61 (0, 40)) 62 (0, 160)) 63 (8, 3)) 64 (0, 24)) 65 (0, 8)) 66 (9, 4)) 67 (0, 20)) 68 (0, 3)) 69 (0, 80)) 70 (0, 6)) 71 (5, 3)) 72 (3, 8)
def jT0c4 (n : Nat) : jm_T := jm_uA (jm_uA (jm_uA (jm_uA (jm_uA (jm_uA (jm_uA (jm_uA (jm_uA (jm_uA (jm_uA (jm_uA (jm_uA (jm_uA (jm_uA (jm_uA (jT0c3 n) 73 (0, 8)) 74 (1, 343)) 75 (4, 8)) 76 (1, 343)) 77 (0, 7)) 78 (0, 3)) 79 (4, 8)) 80 (1, 343)) 81 (0, 7)) 82 (0, 3)) 83 (4, 8)) 84 (1, 343)) 85 (0, 7)) 86 (0, 3)) 87 (4, 8)) 88 (1, 343)
def jT0c5 (n : Nat) : jm_T := jm_uA (jm_uA (jm_uA (jm_uA (jm_uA (jm_uA (jm_uA (jm_uA (jm_uA (jm_uA (jm_uA (jm_uA (jm_uA (jm_uA (jm_uA (jm_uA (jT0c4 n) 89 (0, 7)) 90 (0, 3)) 91 (4, 8)) 92 (1, 343)) 93 (0, 7)) 94 (0, 3)) 95 (4, 8)) 96 (1, 343)) 97 (0, 7)) 98 (0, 3)) 99 (4, 8)) 100 (1, 343)) 101 (0, 7)) 102 (0, 3)) 103 (4, 8)) 104 (1, 343)
def jT0c6 (n : Nat) : jm_T := jm_uA (jm_uA (jm_uA (jm_uA (jm_uA (jm_uA (jm_uA (jm_uA (jm_uA (jm_uA (jm_uA (jm_uA (jm_uA (jm_uA (jm_uA (jm_uA (jT0c5 n) 105 (0, 7)) 106 (0, 3)) 107 (11, 5)) 108 (1, 96)) 109 (1, 336)) 110 (0, 4)) 111 (14, 44)) 112 (0, 7)) 113 (0, 4)) 114 (0, 4)) 115 (0, 4)) 116 (0, 4)) 117 (0, 16)) 118 (0, 5)) 119 (2, 4)) 120 (0, 8)
def jT0c7 (n : Nat) : jm_T := jm_uA (jm_uA (jm_uA (jm_uA (jm_uA (jm_uA (jm_uA (jm_uA (jm_uA (jm_uA (jm_uA (jm_uA (jm_uA (jm_uA (jm_uA (jm_uA (jT0c6 n) 121 (0, 6)) 122 (0, 4)) 123 (0, 4)) 124 (0, 4)) 125 (0, 40)) 126 (0, 40)) 127 (0, 40)) 128 (0, 40)) 129 (0, 40)) 130 (0, 40)) 131 (0, 40)) 132 (0, 80)) 133 (0, 20)) 134 (0, 72)) 135 (0, 9)) 136 (0, 4)
def jT0c8 (n : Nat) : jm_T := jm_uA (jm_uA (jm_uA (jm_uA (jm_uA (jm_uA (jm_uA (jm_uA (jT0c7 n) 137 (0, 4)) 138 (0, 40)) 139 (0, 8)) 140 (1, 360)) 141 (1, 2240)) 142 (0, 8)) 143 (0, 160)) 144 (0, 1000)
def jT0 (n : Nat) : jm_T := jT0c8 n
def jP0c0 : jm_P := jm_uA (jm_uP (jm_uA (jm_uP (jm_uA (jm_uP (jm_uA (jm_uP (jm_uA (jm_uP (jm_uA (jm_uA (jm_uP (jm_uA (jm_uA (jm_uA ((fun _ _ => none : jm_P)) 9 (fun _ => none)) 10 (fun _ => none)) 11 (fun _ => none)) 10 0 (some 11)) 12 (fun _ => none)) 13 (fun _ => none)) 12 0 (some 13)) 14 (fun _ => none)) 12 1 (some 14)) 15 (fun _ => none)) 12 2 (some 15)) 16 (fun _ => none)) 12 3 (some 16)) 17 (fun _ => none)) 12 4 (some 17)) 18 (fun _ => none)
def jP0c1 : jm_P := jm_uP (jm_uP (jm_uA (jm_uP (jm_uA (jm_uP (jm_uA (jm_uP (jm_uA (jm_uA (jm_uP (jm_uP (jm_uA (jm_uP (jm_uA (jm_uP (jP0c0) 12 5 (some 18)) 19 (fun _ => none)) 12 6 (some 19)) 20 (fun _ => none)) 12 7 (some 20)) 10 1 (some 12)) 21 (fun _ => none)) 22 (fun _ => none)) 21 0 (some 22)) 23 (fun _ => none)) 21 1 (some 23)) 24 (fun _ => none)) 21 2 (some 24)) 25 (fun _ => none)) 21 3 (some 25)) 10 2 (some 21)
def jP0c2 : jm_P := jm_uA (jm_uP (jm_uA (jm_uP (jm_uA (jm_uP (jm_uA (jm_uP (jm_uA (jm_uP (jm_uA (jm_uP (jm_uA (jm_uP (jm_uA (jm_uA (jP0c1) 26 (fun _ => none)) 27 (fun _ => none)) 26 0 (some 27)) 28 (fun _ => none)) 26 1 (some 28)) 29 (fun _ => none)) 26 2 (some 29)) 30 (fun _ => none)) 26 3 (some 30)) 31 (fun _ => none)) 26 4 (some 31)) 32 (fun _ => none)) 26 5 (some 32)) 33 (fun _ => none)) 26 6 (some 33)) 34 (fun _ => none)
def jP0c3 : jm_P := jm_uA (jm_uP (jm_uA (jm_uA (jm_uP (jm_uA (jm_uA (jm_uP (jm_uP (jm_uP (jm_uA (jm_uP (jm_uA (jm_uA (jm_uP (jm_uP (jP0c2) 26 7 (some 34)) 10 3 (some 26)) 35 (fun _ => none)) 36 (fun _ => none)) 35 0 (some 36)) 37 (fun _ => none)) 35 1 (some 37)) 10 4 (some 35)) 9 0 (some 10)) 38 (fun _ => none)) 39 (fun _ => none)) 38 0 (some 39)) 40 (fun _ => none)) 41 (fun _ => none)) 40 0 (some 41)) 42 (fun _ => none)
def jP0c4 : jm_P := jm_uA (jm_uA (jm_uP (jm_uP (jm_uA (jm_uP (jm_uA (jm_uP (jm_uA (jm_uP (jm_uA (jm_uP (jm_uA (jm_uP (jm_uA (jm_uP (jP0c3) 40 1 (some 42)) 43 (fun _ => none)) 40 2 (some 43)) 44 (fun _ => none)) 40 3 (some 44)) 45 (fun _ => none)) 40 4 (some 45)) 46 (fun _ => none)) 40 5 (some 46)) 47 (fun _ => none)) 40 6 (some 47)) 48 (fun _ => none)) 40 7 (some 48)) 38 1 (some 40)) 49 (fun _ => none)) 50 (fun _ => none)
def jP0c5 : jm_P := jm_uA (jm_uP (jm_uA (jm_uP (jm_uA (jm_uP (jm_uA (jm_uA (jm_uP (jm_uP (jm_uA (jm_uP (jm_uA (jm_uP (jm_uA (jm_uP (jP0c4) 49 0 (some 50)) 51 (fun _ => none)) 49 1 (some 51)) 52 (fun _ => none)) 49 2 (some 52)) 53 (fun _ => none)) 49 3 (some 53)) 38 2 (some 49)) 54 (fun _ => none)) 55 (fun _ => none)) 54 0 (some 55)) 56 (fun _ => none)) 54 1 (some 56)) 57 (fun _ => none)) 54 2 (some 57)) 58 (fun _ => none)
def jP0c6 : jm_P := jm_uP (jm_uP (jm_uA (jm_uP (jm_uA (jm_uA (jm_uP (jm_uP (jm_uA (jm_uP (jm_uA (jm_uP (jm_uA (jm_uP (jm_uA (jm_uP (jP0c5) 54 3 (some 58)) 59 (fun _ => none)) 54 4 (some 59)) 60 (fun _ => none)) 54 5 (some 60)) 61 (fun _ => none)) 54 6 (some 61)) 62 (fun _ => none)) 54 7 (some 62)) 38 3 (some 54)) 63 (fun _ => none)) 64 (fun _ => none)) 63 0 (some 64)) 65 (fun _ => none)) 63 1 (some 65)) 38 4 (some 63)
def jP0c7 : jm_P := jm_uP (jm_uA (jm_uP (jm_uA (jm_uA (jm_uP (jm_uA (jm_uP (jm_uA (jm_uP (jm_uP (jm_uA (jm_uP (jm_uA (jm_uA (jm_uP (jP0c6) 9 1 (some 38)) 66 (fun _ => none)) 67 (fun _ => none)) 66 0 (some 67)) 68 (fun _ => none)) 66 2 (some 68)) 9 3 (some 66)) 69 (fun _ => none)) 9 4 (some 69)) 70 (fun _ => none)) 9 6 (some 70)) 71 (fun _ => none)) 72 (fun _ => none)) 71 1 (some 72)) 73 (fun _ => none)) 71 2 (some 73)
def jP0c8 : jm_P := jm_uA (jm_uP (jm_uA (jm_uA (jm_uP (jm_uP (jm_uP (jm_uP (jm_uA (jm_uP (jm_uA (jm_uP (jm_uA (jm_uA (jm_uA (jm_uP (jP0c7) 71 0 (some 10)) 74 (fun _ => none)) 75 (fun _ => none)) 76 (fun _ => none)) 75 2 (some 76)) 77 (fun _ => none)) 75 3 (some 77)) 78 (fun _ => none)) 75 4 (some 78)) 75 0 (some 10)) 75 1 (some 74)) 72 0 (some 75)) 79 (fun _ => none)) 80 (fun _ => none)) 79 2 (some 80)) 81 (fun _ => none)
def jP0c9 : jm_P := jm_uP (jm_uP (jm_uP (jm_uP (jm_uA (jm_uP (jm_uA (jm_uP (jm_uA (jm_uA (jm_uP (jm_uP (jm_uP (jm_uP (jm_uA (jm_uP (jP0c8) 79 3 (some 81)) 82 (fun _ => none)) 79 4 (some 82)) 79 0 (some 10)) 79 1 (some 74)) 72 1 (some 79)) 83 (fun _ => none)) 84 (fun _ => none)) 83 2 (some 84)) 85 (fun _ => none)) 83 3 (some 85)) 86 (fun _ => none)) 83 4 (some 86)) 83 0 (some 10)) 83 1 (some 74)) 72 2 (some 83)
def jP0c10 : jm_P := jm_uA (jm_uP (jm_uA (jm_uP (jm_uA (jm_uA (jm_uP (jm_uP (jm_uP (jm_uP (jm_uA (jm_uP (jm_uA (jm_uP (jm_uA (jm_uA (jP0c9) 87 (fun _ => none)) 88 (fun _ => none)) 87 2 (some 88)) 89 (fun _ => none)) 87 3 (some 89)) 90 (fun _ => none)) 87 4 (some 90)) 87 0 (some 10)) 87 1 (some 74)) 72 3 (some 87)) 91 (fun _ => none)) 92 (fun _ => none)) 91 2 (some 92)) 93 (fun _ => none)) 91 3 (some 93)) 94 (fun _ => none)
def jP0c11 : jm_P := jm_uA (jm_uA (jm_uP (jm_uP (jm_uP (jm_uP (jm_uA (jm_uP (jm_uA (jm_uP (jm_uA (jm_uA (jm_uP (jm_uP (jm_uP (jm_uP (jP0c10) 91 4 (some 94)) 91 0 (some 10)) 91 1 (some 74)) 72 4 (some 91)) 95 (fun _ => none)) 96 (fun _ => none)) 95 2 (some 96)) 97 (fun _ => none)) 95 3 (some 97)) 98 (fun _ => none)) 95 4 (some 98)) 95 0 (some 10)) 95 1 (some 74)) 72 5 (some 95)) 99 (fun _ => none)) 100 (fun _ => none)
def jP0c12 : jm_P := jm_uP (jm_uP (jm_uA (jm_uP (jm_uA (jm_uP (jm_uA (jm_uA (jm_uP (jm_uP (jm_uP (jm_uP (jm_uA (jm_uP (jm_uA (jm_uP (jP0c11) 99 2 (some 100)) 101 (fun _ => none)) 99 3 (some 101)) 102 (fun _ => none)) 99 4 (some 102)) 99 0 (some 10)) 99 1 (some 74)) 72 6 (some 99)) 103 (fun _ => none)) 104 (fun _ => none)) 103 2 (some 104)) 105 (fun _ => none)) 103 3 (some 105)) 106 (fun _ => none)) 103 4 (some 106)) 103 0 (some 10)
def jP0c13 : jm_P := jm_uA (jm_uP (jm_uA (jm_uA (jm_uP (jm_uP (jm_uP (jm_uA (jm_uP (jm_uA (jm_uP (jm_uA (jm_uA (jm_uP (jm_uP (jm_uP (jP0c12) 103 1 (some 74)) 72 7 (some 103)) 9 7 (some 71)) 107 (fun _ => none)) 108 (fun _ => none)) 107 1 (some 108)) 109 (fun _ => none)) 107 2 (some 109)) 110 (fun _ => none)) 107 3 (some 110)) 107 0 (some 10)) 9 8 (some 107)) 111 (fun _ => none)) 112 (fun _ => none)) 111 0 (some 112)) 113 (fun _ => none)
def jP0c14 : jm_P := jm_uA (jm_uP (jm_uA (jm_uP (jm_uA (jm_uP (jm_uA (jm_uP (jm_uA (jm_uP (jm_uA (jm_uP (jm_uA (jm_uP (jm_uA (jm_uP (jP0c13) 111 1 (some 113)) 114 (fun _ => none)) 111 2 (some 114)) 115 (fun _ => none)) 111 3 (some 115)) 116 (fun _ => none)) 111 4 (some 116)) 117 (fun _ => none)) 111 5 (some 117)) 118 (fun _ => none)) 111 6 (some 118)) 119 (fun _ => none)) 111 7 (some 119)) 120 (fun _ => none)) 111 8 (some 120)) 121 (fun _ => none)
def jP0c15 : jm_P := jm_uA (jm_uP (jm_uA (jm_uP (jm_uA (jm_uP (jm_uA (jm_uP (jm_uA (jm_uP (jm_uA (jm_uP (jm_uA (jm_uP (jm_uA (jm_uP (jP0c14) 111 9 (some 121)) 122 (fun _ => none)) 111 10 (some 122)) 123 (fun _ => none)) 111 11 (some 123)) 124 (fun _ => none)) 111 12 (some 124)) 125 (fun _ => none)) 111 13 (some 125)) 126 (fun _ => none)) 111 14 (some 126)) 127 (fun _ => none)) 111 15 (some 127)) 128 (fun _ => none)) 111 16 (some 128)) 129 (fun _ => none)
def jP0c16 : jm_P := jm_uA (jm_uP (jm_uA (jm_uP (jm_uA (jm_uP (jm_uA (jm_uP (jm_uA (jm_uP (jm_uA (jm_uP (jm_uA (jm_uP (jm_uA (jm_uP (jP0c15) 111 17 (some 129)) 130 (fun _ => none)) 111 18 (some 130)) 131 (fun _ => none)) 111 19 (some 131)) 132 (fun _ => none)) 111 21 (some 132)) 133 (fun _ => none)) 111 23 (some 133)) 134 (fun _ => none)) 111 24 (some 134)) 135 (fun _ => none)) 111 25 (some 135)) 136 (fun _ => none)) 111 26 (some 136)) 137 (fun _ => none)
def jP0c17 : jm_P := jm_uP (jm_uA (jm_uP (jm_uA (jm_uP (jm_uA (jm_uP (jm_uA (jm_uP (jm_uA (jm_uP (jm_uA (jm_uP (jm_uA (jm_uP (jP0c16) 111 27 (some 137)) 138 (fun _ => none)) 111 31 (some 138)) 139 (fun _ => none)) 111 32 (some 139)) 140 (fun _ => none)) 111 33 (some 140)) 141 (fun _ => none)) 111 34 (some 141)) 142 (fun _ => none)) 111 38 (some 142)) 143 (fun _ => none)) 111 39 (some 143)) 144 (fun _ => none)) 111 40 (some 144)
def jP0 : jm_P := jP0c17
def jI0c0 (xs : Nat → Int32) : jm_I := jm_uA (jm_uA (jm_uA (jm_uA (jm_uA (jm_uA (jm_uA (jm_uA (jm_u (jm_u (jm_u (jm_u (jm_u (jm_uA (jm_uA (jm_uA (jI00 xs) 9 (fun _ => 0)) 10 (fun _ => 0)) 11 (fun _ => 0)) 11 0 (0)) 11 1 (31556952)) 11 2 (10)) 11 3 (50)) 11 4 (60)) 12 (fun _ => 0)) 13 (fun _ => 0)) 14 (fun _ => 0)) 15 (fun _ => 0)) 16 (fun _ => 0)) 17 (fun _ => 0)) 18 (fun _ => 0)) 19 (fun _ => 0)
def jI0c1 (xs : Nat → Int32) : jm_I := jm_uA (jm_uA (jm_uA (jm_uA (jm_uA (jm_uA (jm_uA (jm_uA (jm_uA (jm_uA (jm_uA (jm_u (jm_u (jm_u (jm_u (jm_uA (jI0c0 xs) 20 (fun _ => 0)) 20 0 (1000)) 20 1 (1000)) 20 2 (1000)) 20 3 (1000)) 21 (fun _ => 0)) 22 (fun _ => 0)) 23 (fun _ => 0)) 24 (fun _ => 0)) 25 (fun _ => 0)) 26 (fun _ => 0)) 27 (fun _ => 0)) 28 (fun _ => 0)) 29 (fun _ => 0)) 30 (fun _ => 0)) 31 (fun _ => 0)
def jI0c2 (xs : Nat → Int32) : jm_I := jm_uA (jm_uA (jm_uA (jm_u (jm_u (jm_u (jm_u (jm_u (jm_uA (jm_uA (jm_uA (jm_uA (jm_uA (jm_uA (jm_uA (jm_uA (jI0c1 xs) 32 (fun _ => 0)) 33 (fun _ => 0)) 34 (fun _ => 0)) 35 (fun _ => 0)) 36 (fun _ => 0)) 37 (fun _ => 0)) 38 (fun _ => 0)) 39 (fun _ => 0)) 39 0 (0)) 39 1 (31556952)) 39 2 (10)) 39 3 (50)) 39 4 (60)) 40 (fun _ => 0)) 41 (fun _ => 0)) 42 (fun _ => 0)
def jI0c3 (xs : Nat → Int32) : jm_I := jm_uA (jm_uA (jm_uA (jm_uA (jm_uA (jm_uA (jm_u (jm_u (jm_u (jm_u (jm_uA (jm_uA (jm_uA (jm_uA (jm_uA (jm_uA (jI0c2 xs) 43 (fun _ => 0)) 44 (fun _ => 0)) 45 (fun _ => 0)) 46 (fun _ => 0)) 47 (fun _ => 0)) 48 (fun _ => 0)) 48 0 (1000)) 48 1 (1000)) 48 2 (1000)) 48 3 (1000)) 49 (fun _ => 0)) 50 (fun _ => 0)) 51 (fun _ => 0)) 52 (fun _ => 0)) 53 (fun _ => 0)) 54 (fun _ => 0)
def jI0c4 (xs : Nat → Int32) : jm_I := jm_uA (jm_uA (jm_uA (jm_uA (jm_uA (jm_uA (jm_uA (jm_uA (jm_uA (jm_uA (jm_uA (jm_uA (jm_uA (jm_uA (jm_uA (jm_uA (jI0c3 xs) 55 (fun _ => 0)) 56 (fun _ => 0)) 57 (fun _ => 0)) 58 (fun _ => 0)) 59 (fun _ => 0)) 60 (fun _ => 0)) 61 (fun _ => 0)) 62 (fun _ => 0)) 63 (fun _ => 0)) 64 (fun _ => 0)) 65 (fun _ => 0)) 66 (fun _ => 0)) 67 (fun _ => 0)) 68 (fun _ => 0)) 69 (fun _ => 0)) 70 (fun _ => 0)
def jI0c5 (xs : Nat → Int32) : jm_I := jm_uA (jm_uA (jm_uA (jm_uA (jm_uA (jm_uA (jm_uA (jm_uA (jm_uA (jm_uA (jm_uA (jm_uA (jm_uA (jm_uA (jm_uA (jm_uA (jI0c4 xs) 71 (fun _ => 0)) 72 (fun _ => 0)) 73 (fun _ => 0)) 74 (fun _ => 0)) 75 (fun _ => 0)) 76 (fun _ => 0)) 77 (fun _ => 0)) 78 (fun _ => 0)) 79 (fun _ => 0)) 80 (fun _ => 0)) 81 (fun _ => 0)) 82 (fun _ => 0)) 83 (fun _ => 0)) 84 (fun _ => 0)) 85 (fun _ => 0)) 86 (fun _ => 0)
def jI0c6 (xs : Nat → Int32) : jm_I := jm_uA (jm_uA (jm_uA (jm_uA (jm_uA (jm_uA (jm_uA (jm_uA (jm_uA (jm_uA (jm_uA (jm_uA (jm_uA (jm_uA (jm_uA (jm_uA (jI0c5 xs) 87 (fun _ => 0)) 88 (fun _ => 0)) 89 (fun _ => 0)) 90 (fun _ => 0)) 91 (fun _ => 0)) 92 (fun _ => 0)) 93 (fun _ => 0)) 94 (fun _ => 0)) 95 (fun _ => 0)) 96 (fun _ => 0)) 97 (fun _ => 0)) 98 (fun _ => 0)) 99 (fun _ => 0)) 100 (fun _ => 0)) 101 (fun _ => 0)) 102 (fun _ => 0)
def jI0c7 (xs : Nat → Int32) : jm_I := jm_uA (jm_uA (jm_uA (jm_uA (jm_uA (jm_uA (jm_uA (jm_uA (jm_uA (jm_uA (jm_uA (jm_uA (jm_uA (jm_uA (jm_uA (jm_uA (jI0c6 xs) 103 (fun _ => 0)) 104 (fun _ => 0)) 105 (fun _ => 0)) 106 (fun _ => 0)) 107 (fun _ => 0)) 108 (fun _ => 0)) 109 (fun _ => 0)) 110 (fun _ => 0)) 111 (fun _ => 0)) 112 (fun _ => 0)) 113 (fun _ => 0)) 114 (fun _ => 0)) 115 (fun _ => 0)) 116 (fun _ => 0)) 117 (fun _ => 0)) 118 (fun _ => 0)
def jI0c8 (xs : Nat → Int32) : jm_I := jm_uA (jm_uA (jm_uA (jm_uA (jm_uA (jm_uA (jm_u (jm_u (jm_u (jm_u (jm_u (jm_u (jm_u (jm_u (jm_uA (jm_uA (jI0c7 xs) 119 (fun _ => 0)) 120 (fun _ => 0)) 120 0 (0)) 120 1 (3)) 120 2 (4)) 120 3 (3)) 120 4 (0)) 120 5 (-3)) 120 6 (-4)) 120 7 (-3)) 121 (fun _ => 0)) 122 (fun _ => 0)) 123 (fun _ => 0)) 124 (fun _ => 0)) 125 (fun _ => 0)) 126 (fun _ => 0)
def jI0c9 (xs : Nat → Int32) : jm_I := jm_uA (jm_uA (jm_uA (jm_uA (jm_uA (jm_uA (jm_uA (jm_uA (jm_uA (jm_uA (jm_uA (jm_uA (jm_uA (jm_uA (jm_uA (jm_uA (jI0c8 xs) 127 (fun _ => 0)) 128 (fun _ => 0)) 129 (fun _ => 0)) 130 (fun _ => 0)) 131 (fun _ => 0)) 132 (fun _ => 0)) 133 (fun _ => 0)) 134 (fun _ => 0)) 135 (fun _ => 0)) 136 (fun _ => 0)) 137 (fun _ => 0)) 138 (fun _ => 0)) 139 (fun _ => 0)) 140 (fun _ => 0)) 141 (fun _ => 0)) 142 (fun _ => 0)
def jI0c10 (xs : Nat → Int32) : jm_I := jm_u (jm_u (jm_u (jm_u (jm_u (jm_u (jm_u (jm_u (jm_uA (jm_uA (jI0c9 xs) 143 (fun _ => 0)) 144 (fun _ => 0)) 118 1 (31556952)) 118 2 (10)) 118 3 (50)) 118 4 (60)) 137 0 (1000)) 137 1 (1000)) 137 2 (1000)) 137 3 (1000)
def jI0 (xs : Nat → Int32) : jm_I := jI0c10 xs
def jL0c0 : jm_L := jm_uA (jm_uA (jm_uA (jm_uA (jm_uA (jm_uA (jm_uA (jm_uA (jm_uA (jm_uA (jm_uA (jm_uA (jm_uA (jm_uA (jm_uA (jm_uA ((fun _ _ => 0 : jm_L)) 9 (fun _ => 0)) 10 (fun _ => 0)) 11 (fun _ => 0)) 12 (fun _ => 0)) 13 (fun _ => 0)) 14 (fun _ => 0)) 15 (fun _ => 0)) 16 (fun _ => 0)) 17 (fun _ => 0)) 18 (fun _ => 0)) 19 (fun _ => 0)) 20 (fun _ => 0)) 21 (fun _ => 0)) 22 (fun _ => 0)) 23 (fun _ => 0)) 24 (fun _ => 0)
def jL0c1 : jm_L := jm_uA (jm_uA (jm_uA (jm_uA (jm_uA (jm_uA (jm_uA (jm_uA (jm_uA (jm_uA (jm_uA (jm_uA (jm_uA (jm_uA (jm_uA (jm_uA (jL0c0) 25 (fun _ => 0)) 26 (fun _ => 0)) 27 (fun _ => 0)) 28 (fun _ => 0)) 29 (fun _ => 0)) 30 (fun _ => 0)) 31 (fun _ => 0)) 32 (fun _ => 0)) 33 (fun _ => 0)) 34 (fun _ => 0)) 35 (fun _ => 0)) 36 (fun _ => 0)) 37 (fun _ => 0)) 38 (fun _ => 0)) 39 (fun _ => 0)) 40 (fun _ => 0)
def jL0c2 : jm_L := jm_uA (jm_uA (jm_uA (jm_uA (jm_uA (jm_uA (jm_uA (jm_uA (jm_uA (jm_uA (jm_uA (jm_uA (jm_uA (jm_uA (jm_uA (jm_uA (jL0c1) 41 (fun _ => 0)) 42 (fun _ => 0)) 43 (fun _ => 0)) 44 (fun _ => 0)) 45 (fun _ => 0)) 46 (fun _ => 0)) 47 (fun _ => 0)) 48 (fun _ => 0)) 49 (fun _ => 0)) 50 (fun _ => 0)) 51 (fun _ => 0)) 52 (fun _ => 0)) 53 (fun _ => 0)) 54 (fun _ => 0)) 55 (fun _ => 0)) 56 (fun _ => 0)
def jL0c3 : jm_L := jm_uA (jm_uA (jm_uA (jm_uA (jm_uA (jm_uA (jm_uA (jm_uA (jm_uA (jm_uA (jm_uA (jm_uA (jm_uA (jm_uA (jm_uA (jm_uA (jL0c2) 57 (fun _ => 0)) 58 (fun _ => 0)) 59 (fun _ => 0)) 60 (fun _ => 0)) 61 (fun _ => 0)) 62 (fun _ => 0)) 63 (fun _ => 0)) 64 (fun _ => 0)) 65 (fun _ => 0)) 66 (fun _ => 0)) 67 (fun _ => 0)) 68 (fun _ => 0)) 69 (fun _ => 0)) 70 (fun _ => 0)) 71 (fun _ => 0)) 72 (fun _ => 0)
def jL0c4 : jm_L := jm_uA (jm_uA (jm_uA (jm_uA (jm_uA (jm_uA (jm_uA (jm_uA (jm_uA (jm_uA (jm_uA (jm_uA (jm_uA (jm_uA (jm_uA (jm_uA (jL0c3) 73 (fun _ => 0)) 74 (fun _ => 0)) 75 (fun _ => 0)) 76 (fun _ => 0)) 77 (fun _ => 0)) 78 (fun _ => 0)) 79 (fun _ => 0)) 80 (fun _ => 0)) 81 (fun _ => 0)) 82 (fun _ => 0)) 83 (fun _ => 0)) 84 (fun _ => 0)) 85 (fun _ => 0)) 86 (fun _ => 0)) 87 (fun _ => 0)) 88 (fun _ => 0)
def jL0c5 : jm_L := jm_uA (jm_uA (jm_uA (jm_uA (jm_uA (jm_uA (jm_uA (jm_uA (jm_uA (jm_uA (jm_uA (jm_uA (jm_uA (jm_uA (jm_uA (jm_uA (jL0c4) 89 (fun _ => 0)) 90 (fun _ => 0)) 91 (fun _ => 0)) 92 (fun _ => 0)) 93 (fun _ => 0)) 94 (fun _ => 0)) 95 (fun _ => 0)) 96 (fun _ => 0)) 97 (fun _ => 0)) 98 (fun _ => 0)) 99 (fun _ => 0)) 100 (fun _ => 0)) 101 (fun _ => 0)) 102 (fun _ => 0)) 103 (fun _ => 0)) 104 (fun _ => 0)
def jL0c6 : jm_L := jm_uA (jm_uA (jm_uA (jm_uA (jm_uA (jm_uA (jm_uA (jm_uA (jm_uA (jm_uA (jm_uA (jm_uA (jm_uA (jm_uA (jm_uA (jm_uA (jL0c5) 105 (fun _ => 0)) 106 (fun _ => 0)) 107 (fun _ => 0)) 108 (fun _ => 0)) 109 (fun _ => 0)) 110 (fun _ => 0)) 111 (fun _ => 0)) 112 (fun _ => 0)) 113 (fun _ => 0)) 114 (fun _ => 0)) 115 (fun _ => 0)) 116 (fun _ => 0)) 117 (fun _ => 0)) 118 (fun _ => 0)) 119 (fun _ => 0)) 120 (fun _ => 0)
def jL0c7 : jm_L := jm_uA (jm_uA (jm_uA (jm_uA (jm_uA (jm_uA (jm_uA (jm_uA (jm_uA (jm_uA (jm_uA (jm_uA (jm_uA (jm_uA (jm_uA (jm_uA (jL0c6) 121 (fun _ => 0)) 122 (fun _ => 0)) 123 (fun _ => 0)) 124 (fun _ => 0)) 125 (fun _ => 0)) 126 (fun _ => 0)) 127 (fun _ => 0)) 128 (fun _ => 0)) 129 (fun _ => 0)) 130 (fun _ => 0)) 131 (fun _ => 0)) 132 (fun _ => 0)) 133 (fun _ => 0)) 134 (fun _ => 0)) 135 (fun _ => 0)) 136 (fun _ => 0)
def jL0c8 : jm_L := jm_uA (jm_uA (jm_uA (jm_uA (jm_uA (jm_uA (jm_uA (jm_uA (jL0c7) 137 (fun _ => 0)) 138 (fun _ => 0)) 139 (fun _ => 0)) 140 (fun _ => 0)) 141 (fun _ => 0)) 142 (fun _ => 0)) 143 (fun _ => 0)) 144 (fun _ => 0)
def jL0 : jm_L := jL0c8
/-- the store behind the two constructors, for a script of n ints -/
def jS (n : Nat) (I : jm_I) (L : jm_L) : jm_S := (145, jT0 n, jP0, I, L)
noncomputable def jE (n : Nat) (r : jm_Row) (pc : Nat) (lv st : List Value) (I : jm_I) (L : jm_L) : Option (Option Value × jm_S) := jm_D r 0 0 pc lv st (jS n I L)
noncomputable def jB (r : jm_Row) (pc : Nat) (lv rest : List Value) (o : Option (Option Value × jm_S)) : Option (Option Value × jm_S) := o.bind fun x => jm_D r 0 0 pc lv (x.1.toList ++ rest) x.2
/-- the Fitters and their rows -/
def fB (t : Nat) : Nat := 75 + 4 * t
def fS (t : Nat) : Nat := 76 + 4 * t
def fH (t : Nat) : Nat := 77 + 4 * t
def fT (t : Nat) : Nat := 78 + 4 * t
section JQ
variable {n : Nat} {r : jm_Row} {pc pc' : Nat} {lv lv' st st' rest : List Value} {I I' : jm_I} {L L' : jm_L} {cc : ByteArray}
theorem jB_s {v : Value} : jB r pc lv rest (some (some v, jS n I L)) = jE n r pc lv (v :: rest) I L := rfl
theorem jB_v : jB r pc lv rest (some (none, jS n I L)) = jE n r pc lv rest I L := rfl
theorem jB_n : jB r pc lv rest none = none := rfl
theorem jB_ite {c : Prop} [Decidable c] {a b : Option (Option Value × jm_S)} : jB r pc lv rest (if c then a else b) = if c then jB r pc lv rest a else jB r pc lv rest b := by split <;> rfl
theorem jq_go (h : jm_nx r 0 0 pc lv st (jS n I L) = some (.inl (.inl (0, 0, pc', lv', st', jS n I' L')))) : jE n r pc lv st I L = jE n r pc' lv' st' I' L' := by
  unfold jE
  rw [jm_D_eq, h]
theorem jq_no (h : jm_nx r 0 0 pc lv st (jS n I L) = none) : jE n r pc lv st I L = none := by
  unfold jE
  rw [jm_D_eq, h]
theorem jq_rt {v : Option Value} (h : jm_nx r 0 0 pc lv st (jS n I L) = some (.inl (.inr (v, jS n I L)))) : jE n r pc lv st I L = some (v, jS n I L) := by
  unfold jE
  rw [jm_D_eq, h]
theorem jq_ca {q : jm_Row} {args : List Value} (h : jm_nx r 0 0 pc lv st (jS n I L) = some (.inr (q, args, rest))) (hz : jr_mc q = 0) (hs : jr_ms q = 0) : jE n r pc lv st I L = jB r (pc + 3) lv rest (jE n q 0 (jm_ini args (jr_ml q)) [] I L) := by
  unfold jE jB
  rw [jm_D_eq, h]
  dsimp only
  rw [hz, hs]
theorem jq_iconst {k : Int} {v : Int32} (hc : jr_cd r = cc) (hd : decode cc pc = .ok (.iconst k, 1)) (hv : Int32.ofInt k = v) (hp : pc + 1 = pc') : jE n r pc lv st I L = jE n r pc' lv (.int v :: st) I L := by
  subst hp
  refine jq_go ?_
  unfold jm_nx
  rw [hc, hd]
  subst hv; rfl
theorem jq_bipush {k : Int} {v : Int32} (hc : jr_cd r = cc) (hd : decode cc pc = .ok (.bipush k, 2)) (hv : (Int8.ofInt k).toInt32 = v) (hp : pc + 2 = pc') : jE n r pc lv st I L = jE n r pc' lv (.int v :: st) I L := by
  subst hp
  refine jq_go ?_
  unfold jm_nx
  rw [hc, hd]
  subst hv; rfl
theorem jq_sipush {k : Int} {v : Int32} (hc : jr_cd r = cc) (hd : decode cc pc = .ok (.sipush k, 3)) (hv : (Int16.ofInt k).toInt32 = v) (hp : pc + 3 = pc') : jE n r pc lv st I L = jE n r pc' lv (.int v :: st) I L := by
  subst hp
  refine jq_go ?_
  unfold jm_nx
  rw [hc, hd]
  subst hv; rfl
theorem jq_lconst {k : Fin 2} {v : Int64} (hc : jr_cd r = cc) (hd : decode cc pc = .ok (.lconst k, 1)) (hv : Int64.ofNat (k : Nat) = v) (hp : pc + 1 = pc') : jE n r pc lv st I L = jE n r pc' lv (.long v :: st) I L := by
  subst hp
  refine jq_go ?_
  unfold jm_nx
  rw [hc, hd]
  subst hv; rfl
theorem jq_ldc {k : Nat} {v w : Int32} (hc : jr_cd r = cc) (hd : decode cc pc = .ok (.ldc k, 2)) (hk : jm_lk (jm_ki (jr_ow r)) k = some v) (hv : v = w) (hp : pc + 2 = pc') : jE n r pc lv st I L = jE n r pc' lv (.int w :: st) I L := by
  subst hp
  refine jq_go ?_
  unfold jm_nx
  rw [hc, hd]
  subst hv; simp only [hk]; rfl
theorem jq_ldc_w {k : Nat} {v w : Int32} (hc : jr_cd r = cc) (hd : decode cc pc = .ok (.ldc_w k, 3)) (hk : jm_lk (jm_ki (jr_ow r)) k = some v) (hv : v = w) (hp : pc + 3 = pc') : jE n r pc lv st I L = jE n r pc' lv (.int w :: st) I L := by
  subst hp
  refine jq_go ?_
  unfold jm_nx
  rw [hc, hd]
  subst hv; simp only [hk]; rfl
theorem jq_ldc2_w {k : Nat} {v w : Int64} (hc : jr_cd r = cc) (hd : decode cc pc = .ok (.ldc2_w k, 3)) (hk : jm_lk (jm_kl (jr_ow r)) k = some v) (hv : v = w) (hp : pc + 3 = pc') : jE n r pc lv st I L = jE n r pc' lv (.long w :: st) I L := by
  subst hp
  refine jq_go ?_
  unfold jm_nx
  rw [hc, hd]
  subst hv; simp only [hk]; rfl
theorem jq_iload {k : Nat} {x : Int32} (hc : jr_cd r = cc) (hd : decode cc pc = .ok (.iload k, 2)) (hk : lv[k]? = some (.int x)) (hp : pc + 2 = pc') : jE n r pc lv st I L = jE n r pc' lv (.int x :: st) I L := by
  subst hp
  refine jq_go ?_
  unfold jm_nx
  rw [hc, hd]
  simp only [hk]; rfl
theorem jq_iload_n {k : Fin 4} {x : Int32} (hc : jr_cd r = cc) (hd : decode cc pc = .ok (.iload_n k, 1)) (hk : lv[(k : Nat)]? = some (.int x)) (hp : pc + 1 = pc') : jE n r pc lv st I L = jE n r pc' lv (.int x :: st) I L := by
  subst hp
  refine jq_go ?_
  unfold jm_nx
  rw [hc, hd]
  simp only [hk]; rfl
theorem jq_lload {k : Nat} {x : Int64} (hc : jr_cd r = cc) (hd : decode cc pc = .ok (.lload k, 2)) (hk : lv[k]? = some (.long x)) (hp : pc + 2 = pc') : jE n r pc lv st I L = jE n r pc' lv (.long x :: st) I L := by
  subst hp
  refine jq_go ?_
  unfold jm_nx
  rw [hc, hd]
  simp only [hk]; rfl
theorem jq_lload_n {k : Fin 4} {x : Int64} (hc : jr_cd r = cc) (hd : decode cc pc = .ok (.lload_n k, 1)) (hk : lv[(k : Nat)]? = some (.long x)) (hp : pc + 1 = pc') : jE n r pc lv st I L = jE n r pc' lv (.long x :: st) I L := by
  subst hp
  refine jq_go ?_
  unfold jm_nx
  rw [hc, hd]
  simp only [hk]; rfl
theorem jq_aload {k : Nat} {x : Nat} (hc : jr_cd r = cc) (hd : decode cc pc = .ok (.aload k, 2)) (hk : lv[k]? = some (.ref x)) (hp : pc + 2 = pc') : jE n r pc lv st I L = jE n r pc' lv (.ref x :: st) I L := by
  subst hp
  refine jq_go ?_
  unfold jm_nx
  rw [hc, hd]
  simp only [hk]; rfl
theorem jq_aload_n {k : Fin 4} {x : Nat} (hc : jr_cd r = cc) (hd : decode cc pc = .ok (.aload_n k, 1)) (hk : lv[(k : Nat)]? = some (.ref x)) (hp : pc + 1 = pc') : jE n r pc lv st I L = jE n r pc' lv (.ref x :: st) I L := by
  subst hp
  refine jq_go ?_
  unfold jm_nx
  rw [hc, hd]
  simp only [hk]; rfl
theorem jq_istore {k : Nat} {x : Int32} (hc : jr_cd r = cc) (hd : decode cc pc = .ok (.istore k, 2)) (hk : k < lv.length) (hv : jm_s1 lv k (.int x) = lv') (hp : pc + 2 = pc') : jE n r pc lv (.int x :: st) I L = jE n r pc' lv' st I L := by
  subst hp
  refine jq_go ?_
  unfold jm_nx
  rw [hc, hd]
  subst hv; simp only [if_pos hk]; rfl
theorem jq_istore_n {k : Fin 4} {x : Int32} (hc : jr_cd r = cc) (hd : decode cc pc = .ok (.istore_n k, 1)) (hk : (k : Nat) < lv.length) (hv : jm_s1 lv k (.int x) = lv') (hp : pc + 1 = pc') : jE n r pc lv (.int x :: st) I L = jE n r pc' lv' st I L := by
  subst hp
  refine jq_go ?_
  unfold jm_nx
  rw [hc, hd]
  subst hv; simp only [if_pos hk]; rfl
theorem jq_lstore {k : Nat} {x : Int64} (hc : jr_cd r = cc) (hd : decode cc pc = .ok (.lstore k, 2)) (hk : k + 1 < lv.length) (hv : jm_s2 lv k (.long x) = lv') (hp : pc + 2 = pc') : jE n r pc lv (.long x :: st) I L = jE n r pc' lv' st I L := by
  subst hp
  refine jq_go ?_
  unfold jm_nx
  rw [hc, hd]
  subst hv; simp only [if_pos hk]; rfl
theorem jq_lstore_n {k : Fin 4} {x : Int64} (hc : jr_cd r = cc) (hd : decode cc pc = .ok (.lstore_n k, 1)) (hk : (k : Nat) + 1 < lv.length) (hv : jm_s2 lv k (.long x) = lv') (hp : pc + 1 = pc') : jE n r pc lv (.long x :: st) I L = jE n r pc' lv' st I L := by
  subst hp
  refine jq_go ?_
  unfold jm_nx
  rw [hc, hd]
  subst hv; simp only [if_pos hk]; rfl
theorem jq_astore {k : Nat} {x : Nat} (hc : jr_cd r = cc) (hd : decode cc pc = .ok (.astore k, 2)) (hk : k < lv.length) (hv : jm_s1 lv k (.ref x) = lv') (hp : pc + 2 = pc') : jE n r pc lv (.ref x :: st) I L = jE n r pc' lv' st I L := by
  subst hp
  refine jq_go ?_
  unfold jm_nx
  rw [hc, hd]
  subst hv; simp only [if_pos hk]; rfl
theorem jq_astore_n {k : Fin 4} {x : Nat} (hc : jr_cd r = cc) (hd : decode cc pc = .ok (.astore_n k, 1)) (hk : (k : Nat) < lv.length) (hv : jm_s1 lv k (.ref x) = lv') (hp : pc + 1 = pc') : jE n r pc lv (.ref x :: st) I L = jE n r pc' lv' st I L := by
  subst hp
  refine jq_go ?_
  unfold jm_nx
  rw [hc, hd]
  subst hv; simp only [if_pos hk]; rfl
theorem jq_iinc {k : Nat} {i : Int} {x y : Int32} (hc : jr_cd r = cc) (hd : decode cc pc = .ok (.iinc k i, 3)) (hk : lv[k]? = some (.int x)) (hy : Int32.ofInt i = y) (hv : jm_s1 lv k (.int (x + y)) = lv') (hp : pc + 3 = pc') : jE n r pc lv st I L = jE n r pc' lv' st I L := by
  subst hp
  refine jq_go ?_
  unfold jm_nx
  rw [hc, hd]
  subst hy; subst hv; simp only [hk]; rfl
theorem jq_iadd {x y : Int32} (hc : jr_cd r = cc) (hd : decode cc pc = .ok (.iadd, 1)) (hp : pc + 1 = pc') : jE n r pc lv (.int y :: .int x :: st) I L = jE n r pc' lv (.int (x + y) :: st) I L := by
  subst hp
  refine jq_go ?_
  unfold jm_nx
  rw [hc, hd]
  rfl
theorem jq_isub {x y : Int32} (hc : jr_cd r = cc) (hd : decode cc pc = .ok (.isub, 1)) (hp : pc + 1 = pc') : jE n r pc lv (.int y :: .int x :: st) I L = jE n r pc' lv (.int (x - y) :: st) I L := by
  subst hp
  refine jq_go ?_
  unfold jm_nx
  rw [hc, hd]
  rfl
theorem jq_imul {x y : Int32} (hc : jr_cd r = cc) (hd : decode cc pc = .ok (.imul, 1)) (hp : pc + 1 = pc') : jE n r pc lv (.int y :: .int x :: st) I L = jE n r pc' lv (.int (x * y) :: st) I L := by
  subst hp
  refine jq_go ?_
  unfold jm_nx
  rw [hc, hd]
  rfl
theorem jq_iand {x y : Int32} (hc : jr_cd r = cc) (hd : decode cc pc = .ok (.iand, 1)) (hp : pc + 1 = pc') : jE n r pc lv (.int y :: .int x :: st) I L = jE n r pc' lv (.int (x &&& y) :: st) I L := by
  subst hp
  refine jq_go ?_
  unfold jm_nx
  rw [hc, hd]
  rfl
theorem jq_ior {x y : Int32} (hc : jr_cd r = cc) (hd : decode cc pc = .ok (.ior, 1)) (hp : pc + 1 = pc') : jE n r pc lv (.int y :: .int x :: st) I L = jE n r pc' lv (.int (x ||| y) :: st) I L := by
  subst hp
  refine jq_go ?_
  unfold jm_nx
  rw [hc, hd]
  rfl
theorem jq_ishl {x y : Int32} (hc : jr_cd r = cc) (hd : decode cc pc = .ok (.ishl, 1)) (hp : pc + 1 = pc') : jE n r pc lv (.int y :: .int x :: st) I L = jE n r pc' lv (.int (x <<< (y &&& 31)) :: st) I L := by
  subst hp
  refine jq_go ?_
  unfold jm_nx
  rw [hc, hd]
  rfl
theorem jq_ishr {x y : Int32} (hc : jr_cd r = cc) (hd : decode cc pc = .ok (.ishr, 1)) (hp : pc + 1 = pc') : jE n r pc lv (.int y :: .int x :: st) I L = jE n r pc' lv (.int (x >>> (y &&& 31)) :: st) I L := by
  subst hp
  refine jq_go ?_
  unfold jm_nx
  rw [hc, hd]
  rfl
theorem jq_iushr {x y : Int32} (hc : jr_cd r = cc) (hd : decode cc pc = .ok (.iushr, 1)) (hp : pc + 1 = pc') : jE n r pc lv (.int y :: .int x :: st) I L = jE n r pc' lv (.int ((x.toUInt32 >>> (y.toUInt32 &&& Int32.toUInt32 31)).toInt32) :: st) I L := by
  subst hp
  refine jq_go ?_
  unfold jm_nx
  rw [hc, hd]
  rfl
theorem jq_ladd {x y : Int64} (hc : jr_cd r = cc) (hd : decode cc pc = .ok (.ladd, 1)) (hp : pc + 1 = pc') : jE n r pc lv (.long y :: .long x :: st) I L = jE n r pc' lv (.long (x + y) :: st) I L := by
  subst hp
  refine jq_go ?_
  unfold jm_nx
  rw [hc, hd]
  rfl
theorem jq_lsub {x y : Int64} (hc : jr_cd r = cc) (hd : decode cc pc = .ok (.lsub, 1)) (hp : pc + 1 = pc') : jE n r pc lv (.long y :: .long x :: st) I L = jE n r pc' lv (.long (x - y) :: st) I L := by
  subst hp
  refine jq_go ?_
  unfold jm_nx
  rw [hc, hd]
  rfl
theorem jq_lmul {x y : Int64} (hc : jr_cd r = cc) (hd : decode cc pc = .ok (.lmul, 1)) (hp : pc + 1 = pc') : jE n r pc lv (.long y :: .long x :: st) I L = jE n r pc' lv (.long (x * y) :: st) I L := by
  subst hp
  refine jq_go ?_
  unfold jm_nx
  rw [hc, hd]
  rfl
theorem jq_land {x y : Int64} (hc : jr_cd r = cc) (hd : decode cc pc = .ok (.land, 1)) (hp : pc + 1 = pc') : jE n r pc lv (.long y :: .long x :: st) I L = jE n r pc' lv (.long (x &&& y) :: st) I L := by
  subst hp
  refine jq_go ?_
  unfold jm_nx
  rw [hc, hd]
  rfl
theorem jq_lor {x y : Int64} (hc : jr_cd r = cc) (hd : decode cc pc = .ok (.lor, 1)) (hp : pc + 1 = pc') : jE n r pc lv (.long y :: .long x :: st) I L = jE n r pc' lv (.long (x ||| y) :: st) I L := by
  subst hp
  refine jq_go ?_
  unfold jm_nx
  rw [hc, hd]
  rfl
theorem jq_lxor {x y : Int64} (hc : jr_cd r = cc) (hd : decode cc pc = .ok (.lxor, 1)) (hp : pc + 1 = pc') : jE n r pc lv (.long y :: .long x :: st) I L = jE n r pc' lv (.long (x ^^^ y) :: st) I L := by
  subst hp
  refine jq_go ?_
  unfold jm_nx
  rw [hc, hd]
  rfl
theorem jq_lshl {x : Int64} {y : Int32} (hc : jr_cd r = cc) (hd : decode cc pc = .ok (.lshl, 1)) (hp : pc + 1 = pc') : jE n r pc lv (.int y :: .long x :: st) I L = jE n r pc' lv (.long (x <<< (y.toInt64 &&& 63)) :: st) I L := by
  subst hp
  refine jq_go ?_
  unfold jm_nx
  rw [hc, hd]
  rfl
theorem jq_lshr {x : Int64} {y : Int32} (hc : jr_cd r = cc) (hd : decode cc pc = .ok (.lshr, 1)) (hp : pc + 1 = pc') : jE n r pc lv (.int y :: .long x :: st) I L = jE n r pc' lv (.long (x >>> (y.toInt64 &&& 63)) :: st) I L := by
  subst hp
  refine jq_go ?_
  unfold jm_nx
  rw [hc, hd]
  rfl
theorem jq_lushr {x : Int64} {y : Int32} (hc : jr_cd r = cc) (hd : decode cc pc = .ok (.lushr, 1)) (hp : pc + 1 = pc') : jE n r pc lv (.int y :: .long x :: st) I L = jE n r pc' lv (.long ((x.toUInt64 >>> (y.toInt64.toUInt64 &&& Int64.toUInt64 63)).toInt64) :: st) I L := by
  subst hp
  refine jq_go ?_
  unfold jm_nx
  rw [hc, hd]
  rfl
theorem jq_ineg {x : Int32} (hc : jr_cd r = cc) (hd : decode cc pc = .ok (.ineg, 1)) (hp : pc + 1 = pc') : jE n r pc lv (.int x :: st) I L = jE n r pc' lv (.int (-x) :: st) I L := by
  subst hp
  refine jq_go ?_
  unfold jm_nx
  rw [hc, hd]
  rfl
theorem jq_lneg {x : Int64} (hc : jr_cd r = cc) (hd : decode cc pc = .ok (.lneg, 1)) (hp : pc + 1 = pc') : jE n r pc lv (.long x :: st) I L = jE n r pc' lv (.long (-x) :: st) I L := by
  subst hp
  refine jq_go ?_
  unfold jm_nx
  rw [hc, hd]
  rfl
theorem jq_i2l {x : Int32} (hc : jr_cd r = cc) (hd : decode cc pc = .ok (.i2l, 1)) (hp : pc + 1 = pc') : jE n r pc lv (.int x :: st) I L = jE n r pc' lv (.long x.toInt64 :: st) I L := by
  subst hp
  refine jq_go ?_
  unfold jm_nx
  rw [hc, hd]
  rfl
theorem jq_l2i {x : Int64} (hc : jr_cd r = cc) (hd : decode cc pc = .ok (.l2i, 1)) (hp : pc + 1 = pc') : jE n r pc lv (.long x :: st) I L = jE n r pc' lv (.int x.toInt32 :: st) I L := by
  subst hp
  refine jq_go ?_
  unfold jm_nx
  rw [hc, hd]
  rfl
theorem jq_idiv {x y : Int32} (hc : jr_cd r = cc) (hd : decode cc pc = .ok (.idiv, 1)) (hy : ¬ y = 0) (hp : pc + 1 = pc') : jE n r pc lv (.int y :: .int x :: st) I L = jE n r pc' lv (.int (x / y) :: st) I L := by
  subst hp
  refine jq_go ?_
  unfold jm_nx
  rw [hc, hd]
  simp only [if_neg hy]; rfl
theorem jq_irem {x y : Int32} (hc : jr_cd r = cc) (hd : decode cc pc = .ok (.irem, 1)) (hy : ¬ y = 0) (hp : pc + 1 = pc') : jE n r pc lv (.int y :: .int x :: st) I L = jE n r pc' lv (.int (x - x / y * y) :: st) I L := by
  subst hp
  refine jq_go ?_
  unfold jm_nx
  rw [hc, hd]
  simp only [if_neg hy]; rfl
theorem jq_ldiv {x y : Int64} (hc : jr_cd r = cc) (hd : decode cc pc = .ok (.ldiv, 1)) (hy : ¬ y = 0) (hp : pc + 1 = pc') : jE n r pc lv (.long y :: .long x :: st) I L = jE n r pc' lv (.long (x / y) :: st) I L := by
  subst hp
  refine jq_go ?_
  unfold jm_nx
  rw [hc, hd]
  simp only [if_neg hy]; rfl
theorem jq_lrem {x y : Int64} (hc : jr_cd r = cc) (hd : decode cc pc = .ok (.lrem, 1)) (hy : ¬ y = 0) (hp : pc + 1 = pc') : jE n r pc lv (.long y :: .long x :: st) I L = jE n r pc' lv (.long (x - x / y * y) :: st) I L := by
  subst hp
  refine jq_go ?_
  unfold jm_nx
  rw [hc, hd]
  simp only [if_neg hy]; rfl
theorem jq_lcmp {x y : Int64} (hc : jr_cd r = cc) (hd : decode cc pc = .ok (.lcmp, 1)) (hp : pc + 1 = pc') : jE n r pc lv (.long y :: .long x :: st) I L = jE n r pc' lv (.int (lg_cmp x y) :: st) I L := by
  subst hp
  refine jq_go ?_
  unfold jm_nx
  rw [hc, hd]
  rfl
theorem jq_dup_int {x : Int32} (hc : jr_cd r = cc) (hd : decode cc pc = .ok (.dup, 1)) (hp : pc + 1 = pc') : jE n r pc lv (.int x :: st) I L = jE n r pc' lv (.int x :: .int x :: st) I L := by
  subst hp
  refine jq_go ?_
  unfold jm_nx
  rw [hc, hd]
  rfl
theorem jq_dup_ref {x : Nat} (hc : jr_cd r = cc) (hd : decode cc pc = .ok (.dup, 1)) (hp : pc + 1 = pc') : jE n r pc lv (.ref x :: st) I L = jE n r pc' lv (.ref x :: .ref x :: st) I L := by
  subst hp
  refine jq_go ?_
  unfold jm_nx
  rw [hc, hd]
  rfl
theorem jq_dup2 {x : Int32} {a : Nat} (hc : jr_cd r = cc) (hd : decode cc pc = .ok (.dup2, 1)) (hp : pc + 1 = pc') : jE n r pc lv (.int x :: .ref a :: st) I L = jE n r pc' lv (.int x :: .ref a :: .int x :: .ref a :: st) I L := by
  subst hp
  refine jq_go ?_
  unfold jm_nx
  rw [hc, hd]
  rfl
theorem jq_goto {off : Int} (hc : jr_cd r = cc) (hd : decode cc pc = .ok (.goto off, 3)) (hp : jm_tg pc off = some pc') : jE n r pc lv st I L = jE n r pc' lv st I L := by
  refine jq_go ?_
  unfold jm_nx
  rw [hc, hd]
  simp only [hp]
  rfl
theorem jE_if {b : Bool} {c : Prop} [Decidable c] {a d : Nat} (h : b = decide c) : jE n r (if b = true then a else d) lv st I L = if c then jE n r a lv st I L else jE n r d lv st I L := by
  subst h
  by_cases hc : c
  · simp [hc]
  · simp [hc]
theorem jq_icmp0 {cd : ClassFile.Cond} {off : Int} {x y : Int32} {t : Nat} (hc : jr_cd r = cc) (hd : decode cc pc = .ok (.if_icmp cd off, 3)) (ht : jm_tg pc off = some t) : jE n r pc lv (.int y :: .int x :: st) I L = jE n r (if jm_cnd cd x y = true then t else pc + 3) lv st I L := by
  refine jq_go ?_
  unfold jm_nx
  rw [hc, hd]
  simp only [ht]
  rfl
theorem jq_if0 {cd : ClassFile.Cond} {off : Int} {x : Int32} {t : Nat} (hc : jr_cd r = cc) (hd : decode cc pc = .ok (.ifCond cd off, 3)) (ht : jm_tg pc off = some t) : jE n r pc lv (.int x :: st) I L = jE n r (if jm_cnd cd x 0 = true then t else pc + 3) lv st I L := by
  refine jq_go ?_
  unfold jm_nx
  rw [hc, hd]
  simp only [ht]
  rfl
theorem jq_icmp_eq {off : Int} {x y : Int32} {t : Nat} (hc : jr_cd r = cc) (hd : decode cc pc = .ok (.if_icmp .eq off, 3)) (ht : jm_tg pc off = some t) (hp : pc + 3 = pc') : jE n r pc lv (.int y :: .int x :: st) I L = if x = y then jE n r t lv st I L else jE n r pc' lv st I L := by
  subst hp
  rw [jq_icmp0 hc hd ht]
  exact jE_if rfl
theorem jq_if_eq {off : Int} {x : Int32} {t : Nat} (hc : jr_cd r = cc) (hd : decode cc pc = .ok (.ifCond .eq off, 3)) (ht : jm_tg pc off = some t) (hp : pc + 3 = pc') : jE n r pc lv (.int x :: st) I L = if x = 0 then jE n r t lv st I L else jE n r pc' lv st I L := by
  subst hp
  rw [jq_if0 hc hd ht]
  exact jE_if rfl
theorem jq_icmp_ne {off : Int} {x y : Int32} {t : Nat} (hc : jr_cd r = cc) (hd : decode cc pc = .ok (.if_icmp .ne off, 3)) (ht : jm_tg pc off = some t) (hp : pc + 3 = pc') : jE n r pc lv (.int y :: .int x :: st) I L = if ¬ x = y then jE n r t lv st I L else jE n r pc' lv st I L := by
  subst hp
  rw [jq_icmp0 hc hd ht]
  exact jE_if rfl
theorem jq_if_ne {off : Int} {x : Int32} {t : Nat} (hc : jr_cd r = cc) (hd : decode cc pc = .ok (.ifCond .ne off, 3)) (ht : jm_tg pc off = some t) (hp : pc + 3 = pc') : jE n r pc lv (.int x :: st) I L = if ¬ x = 0 then jE n r t lv st I L else jE n r pc' lv st I L := by
  subst hp
  rw [jq_if0 hc hd ht]
  exact jE_if rfl
theorem jq_icmp_lt {off : Int} {x y : Int32} {t : Nat} (hc : jr_cd r = cc) (hd : decode cc pc = .ok (.if_icmp .lt off, 3)) (ht : jm_tg pc off = some t) (hp : pc + 3 = pc') : jE n r pc lv (.int y :: .int x :: st) I L = if x < y then jE n r t lv st I L else jE n r pc' lv st I L := by
  subst hp
  rw [jq_icmp0 hc hd ht]
  exact jE_if rfl
theorem jq_if_lt {off : Int} {x : Int32} {t : Nat} (hc : jr_cd r = cc) (hd : decode cc pc = .ok (.ifCond .lt off, 3)) (ht : jm_tg pc off = some t) (hp : pc + 3 = pc') : jE n r pc lv (.int x :: st) I L = if x < 0 then jE n r t lv st I L else jE n r pc' lv st I L := by
  subst hp
  rw [jq_if0 hc hd ht]
  exact jE_if rfl
theorem jq_icmp_ge {off : Int} {x y : Int32} {t : Nat} (hc : jr_cd r = cc) (hd : decode cc pc = .ok (.if_icmp .ge off, 3)) (ht : jm_tg pc off = some t) (hp : pc + 3 = pc') : jE n r pc lv (.int y :: .int x :: st) I L = if y ≤ x then jE n r t lv st I L else jE n r pc' lv st I L := by
  subst hp
  rw [jq_icmp0 hc hd ht]
  exact jE_if rfl
theorem jq_if_ge {off : Int} {x : Int32} {t : Nat} (hc : jr_cd r = cc) (hd : decode cc pc = .ok (.ifCond .ge off, 3)) (ht : jm_tg pc off = some t) (hp : pc + 3 = pc') : jE n r pc lv (.int x :: st) I L = if 0 ≤ x then jE n r t lv st I L else jE n r pc' lv st I L := by
  subst hp
  rw [jq_if0 hc hd ht]
  exact jE_if rfl
theorem jq_icmp_gt {off : Int} {x y : Int32} {t : Nat} (hc : jr_cd r = cc) (hd : decode cc pc = .ok (.if_icmp .gt off, 3)) (ht : jm_tg pc off = some t) (hp : pc + 3 = pc') : jE n r pc lv (.int y :: .int x :: st) I L = if y < x then jE n r t lv st I L else jE n r pc' lv st I L := by
  subst hp
  rw [jq_icmp0 hc hd ht]
  exact jE_if rfl
theorem jq_if_gt {off : Int} {x : Int32} {t : Nat} (hc : jr_cd r = cc) (hd : decode cc pc = .ok (.ifCond .gt off, 3)) (ht : jm_tg pc off = some t) (hp : pc + 3 = pc') : jE n r pc lv (.int x :: st) I L = if 0 < x then jE n r t lv st I L else jE n r pc' lv st I L := by
  subst hp
  rw [jq_if0 hc hd ht]
  exact jE_if rfl
theorem jq_icmp_le {off : Int} {x y : Int32} {t : Nat} (hc : jr_cd r = cc) (hd : decode cc pc = .ok (.if_icmp .le off, 3)) (ht : jm_tg pc off = some t) (hp : pc + 3 = pc') : jE n r pc lv (.int y :: .int x :: st) I L = if x ≤ y then jE n r t lv st I L else jE n r pc' lv st I L := by
  subst hp
  rw [jq_icmp0 hc hd ht]
  exact jE_if rfl
theorem jq_if_le {off : Int} {x : Int32} {t : Nat} (hc : jr_cd r = cc) (hd : decode cc pc = .ok (.ifCond .le off, 3)) (ht : jm_tg pc off = some t) (hp : pc + 3 = pc') : jE n r pc lv (.int x :: st) I L = if x ≤ 0 then jE n r t lv st I L else jE n r pc' lv st I L := by
  subst hp
  rw [jq_if0 hc hd ht]
  exact jE_if rfl
theorem jcmp_lt (x y : Int64) : lg_cmp x y < 0 ↔ x < y := by
  unfold lg_cmp
  simp only [gt_iff_lt, Int64.lt_iff_toInt_lt, ← Int64.toInt_inj]
  repeat' split
  all_goals (constructor <;> intro hh <;> first | omega | decide | exact absurd hh (by decide))
theorem jcmp_gt (x y : Int64) : 0 < lg_cmp x y ↔ y < x := by
  unfold lg_cmp
  simp only [gt_iff_lt, Int64.lt_iff_toInt_lt, ← Int64.toInt_inj]
  repeat' split
  all_goals (constructor <;> intro hh <;> first | omega | decide | exact absurd hh (by decide))
theorem jcmp_le (x y : Int64) : lg_cmp x y ≤ 0 ↔ x ≤ y := by
  unfold lg_cmp
  simp only [gt_iff_lt, Int64.lt_iff_toInt_lt, Int64.le_iff_toInt_le, ← Int64.toInt_inj]
  repeat' split
  all_goals (constructor <;> intro hh <;> first | omega | decide | exact absurd hh (by decide))
theorem jcmp_eq (x y : Int64) : lg_cmp x y = 0 ↔ x = y := by
  unfold lg_cmp
  simp only [gt_iff_lt, Int64.lt_iff_toInt_lt, ← Int64.toInt_inj]
  repeat' split
  all_goals (constructor <;> intro hh <;> first | omega | decide | exact absurd hh (by decide))
theorem jq_lcmp_eq {off : Int} {x y : Int64} {t pc1 : Nat} (hc : jr_cd r = cc) (hd : decode cc pc = .ok (.lcmp, 1)) (h1 : pc + 1 = pc1) (hd2 : decode cc pc1 = .ok (.ifCond .eq off, 3)) (ht : jm_tg pc1 off = some t) (hp : pc1 + 3 = pc') : jE n r pc lv (.long y :: .long x :: st) I L = if x = y then jE n r t lv st I L else jE n r pc' lv st I L := by
  rw [jq_lcmp hc hd h1, jq_if_eq hc hd2 ht hp]
  exact ite_congr (propext (jcmp_eq x y)) (fun _ => rfl) (fun _ => rfl)
theorem jq_lcmp_ne {off : Int} {x y : Int64} {t pc1 : Nat} (hc : jr_cd r = cc) (hd : decode cc pc = .ok (.lcmp, 1)) (h1 : pc + 1 = pc1) (hd2 : decode cc pc1 = .ok (.ifCond .ne off, 3)) (ht : jm_tg pc1 off = some t) (hp : pc1 + 3 = pc') : jE n r pc lv (.long y :: .long x :: st) I L = if ¬ x = y then jE n r t lv st I L else jE n r pc' lv st I L := by
  rw [jq_lcmp hc hd h1, jq_if_ne hc hd2 ht hp]
  exact ite_congr (propext (not_congr (jcmp_eq x y))) (fun _ => rfl) (fun _ => rfl)
theorem jq_lcmp_lt {off : Int} {x y : Int64} {t pc1 : Nat} (hc : jr_cd r = cc) (hd : decode cc pc = .ok (.lcmp, 1)) (h1 : pc + 1 = pc1) (hd2 : decode cc pc1 = .ok (.ifCond .lt off, 3)) (ht : jm_tg pc1 off = some t) (hp : pc1 + 3 = pc') : jE n r pc lv (.long y :: .long x :: st) I L = if x < y then jE n r t lv st I L else jE n r pc' lv st I L := by
  rw [jq_lcmp hc hd h1, jq_if_lt hc hd2 ht hp]
  exact ite_congr (propext (jcmp_lt x y)) (fun _ => rfl) (fun _ => rfl)
theorem jq_lcmp_ge {off : Int} {x y : Int64} {t pc1 : Nat} (hc : jr_cd r = cc) (hd : decode cc pc = .ok (.lcmp, 1)) (h1 : pc + 1 = pc1) (hd2 : decode cc pc1 = .ok (.ifCond .ge off, 3)) (ht : jm_tg pc1 off = some t) (hp : pc1 + 3 = pc') : jE n r pc lv (.long y :: .long x :: st) I L = if y ≤ x then jE n r t lv st I L else jE n r pc' lv st I L := by
  rw [jq_lcmp hc hd h1, jq_if_ge hc hd2 ht hp]
  exact ite_congr (propext (lg_cmp_ge x y)) (fun _ => rfl) (fun _ => rfl)
theorem jq_lcmp_gt {off : Int} {x y : Int64} {t pc1 : Nat} (hc : jr_cd r = cc) (hd : decode cc pc = .ok (.lcmp, 1)) (h1 : pc + 1 = pc1) (hd2 : decode cc pc1 = .ok (.ifCond .gt off, 3)) (ht : jm_tg pc1 off = some t) (hp : pc1 + 3 = pc') : jE n r pc lv (.long y :: .long x :: st) I L = if y < x then jE n r t lv st I L else jE n r pc' lv st I L := by
  rw [jq_lcmp hc hd h1, jq_if_gt hc hd2 ht hp]
  exact ite_congr (propext (jcmp_gt x y)) (fun _ => rfl) (fun _ => rfl)
theorem jq_lcmp_le {off : Int} {x y : Int64} {t pc1 : Nat} (hc : jr_cd r = cc) (hd : decode cc pc = .ok (.lcmp, 1)) (h1 : pc + 1 = pc1) (hd2 : decode cc pc1 = .ok (.ifCond .le off, 3)) (ht : jm_tg pc1 off = some t) (hp : pc1 + 3 = pc') : jE n r pc lv (.long y :: .long x :: st) I L = if x ≤ y then jE n r t lv st I L else jE n r pc' lv st I L := by
  rw [jq_lcmp hc hd h1, jq_if_le hc hd2 ht hp]
  exact ite_congr (propext (jcmp_le x y)) (fun _ => rfl) (fun _ => rfl)
theorem jq_tsw {d lo hi : Int} {offs : Array Int} {len : Nat} {x : Int32} {off : Int} {t : Nat} (hc : jr_cd r = cc) (hd : decode cc pc = .ok (.tableswitch d lo hi offs, len)) (ho : jm_sw d lo hi offs x.toInt = some off) (ht : jm_tg pc off = some t) : jE n r pc lv (.int x :: st) I L = jE n r t lv st I L := by
  refine jq_go ?_
  unfold jm_nx
  rw [hc, hd]
  simp only [jm_lok, ho, ht]
  rfl
theorem jq_lsw {d : Int} {ps : Array (Int × Int)} {len : Nat} {x : Int32} {off : Int} {t : Nat} (hc : jr_cd r = cc) (hd : decode cc pc = .ok (.lookupswitch d ps, len)) (ho : jm_lup d ps x.toInt = some off) (ht : jm_tg pc off = some t) : jE n r pc lv (.int x :: st) I L = jE n r t lv st I L := by
  refine jq_go ?_
  unfold jm_nx
  rw [hc, hd]
  simp only [jm_lok, ho, ht]
  rfl
theorem jq_getf {k c f a : Nat} {v : Value} (hc : jr_cd r = cc) (hd : decode cc pc = .ok (.getfield k, 3)) (hk : jm_pool (jr_ow r) k = some (3, c, f)) (h1 : 9 ≤ a ∧ a < 145) (h2 : jT0 n a = (c + 4, jm_fn c)) (hv : jm_gv (jS n I L) a c f = some v) (hp : pc + 3 = pc') : jE n r pc lv (.ref a :: st) I L = jE n r pc' lv (v :: st) I L := by
  subst hp
  refine jq_go ?_
  unfold jm_nx
  rw [hc, hd]
  have h3 : jm_rw (jS n I L) a = true ∧ (jS n I L).2.1 a = (c + 4, jm_fn c) := ⟨decide_eq_true h1, h2⟩
  simp only [hk, if_pos h3, hv]
  rfl
theorem jq_putf {k c f a : Nat} {v : Value} (hc : jr_cd r = cc) (hd : decode cc pc = .ok (.putfield k, 3)) (hk : jm_pool (jr_ow r) k = some (3, c, f)) (h1 : 9 ≤ a ∧ a < 145) (h2 : jT0 n a = (c + 4, jm_fn c)) (h3 : (jm_fT c f).2.2.2 = false) (hv : jm_pv (jS n I L) a c f v = some (jS n I' L')) (hp : pc + 3 = pc') : jE n r pc lv (v :: .ref a :: st) I L = jE n r pc' lv st I' L' := by
  subst hp
  refine jq_go ?_
  unfold jm_nx
  rw [hc, hd]
  have h4 : jm_rw (jS n I L) a = true ∧ (jS n I L).2.1 a = (c + 4, jm_fn c) ∧ ((jm_fT c f).2.2.2 = true → jr_kd r = 2 ∧ jr_ow r = c) := ⟨decide_eq_true h1, h2, fun q => by rw [h3] at q; cases q⟩
  simp only [hk, if_pos h4, hv]
  rfl
theorem jq_gets {k a z : Nat} (hc : jr_cd r = cc) (hd : decode cc pc = .ok (.getstatic k, 3)) (hk : jm_pool (jr_ow r) k = some (4, a, z)) (hp : pc + 3 = pc') : jE n r pc lv st I L = jE n r pc' lv (.ref a :: st) I L := by
  subst hp
  refine jq_go ?_
  unfold jm_nx
  rw [hc, hd]
  simp only [hk]
  rfl
/-- how many ints, longs, booleans a row has -/
def jLI (n a : Nat) : Nat := if a < 145 ∧ (jT0 n a).1 = 0 then (jT0 n a).2 else 0
def jLW (n a : Nat) : Nat := if (9 ≤ a ∧ a < 145) ∧ (jT0 n a).1 = 0 then (jT0 n a).2 else 0
def jLL (n a : Nat) : Nat := if (9 ≤ a ∧ a < 145) ∧ (jT0 n a).1 = 1 then (jT0 n a).2 else 0
def jLZ (n a : Nat) : Nat := if (9 ≤ a ∧ a < 145) ∧ (jT0 n a).1 = 2 then (jT0 n a).2 else 0
def jLA (n a : Nat) : Nat := if a < 145 ∧ (jT0 n a).1 ≤ 3 then (jT0 n a).2 else 0
theorem jm_in_nI {k m : Nat} (hm : m < 2 ^ 31) (h : k < m) : jm_in (nI k) m = true ∧ (nI k).toNatClampNeg = k := ⟨decide_eq_true (nI_in h hm), nI_clamp (by omega)⟩
theorem jq_iald {k m a : Nat} (hc : jr_cd r = cc) (hd : decode cc pc = .ok (.iaload, 1)) (hp : pc + 1 = pc') (hm : jLI n a = m) (hk : k < m) (h31 : m < 2 ^ 31) : jE n r pc lv (.int (nI k) :: .ref a :: st) I L = jE n r pc' lv (.int (I a k) :: st) I L := by
  subst hp
  refine jq_go ?_
  unfold jm_nx
  rw [hc, hd]
  have hc2 : a < 145 ∧ (jT0 n a).1 = 0 := by
    unfold jLI at hm
    split at hm
    · assumption
    · omega
  have e : (jT0 n a).2 = m := by rw [← hm]; unfold jLI; rw [if_pos hc2]
  have hi := jm_in_nI h31 hk
  have h4 : a < (jS n I L).1 ∧ ((jS n I L).2.1 a).1 = 0 ∧ jm_in (nI k) ((jS n I L).2.1 a).2 = true := ⟨hc2.1, hc2.2, by show jm_in (nI k) (jT0 n a).2 = true; rw [e]; exact hi.1⟩
  simp only [if_pos h4, hi.2]
  rfl
theorem jq_zald {k m a : Nat} (hc : jr_cd r = cc) (hd : decode cc pc = .ok (.baload, 1)) (hp : pc + 1 = pc') (hm : jLZ n a = m) (hk : k < m) (h31 : m < 2 ^ 31) : jE n r pc lv (.int (nI k) :: .ref a :: st) I L = jE n r pc' lv (.int (I a k) :: st) I L := by
  subst hp
  refine jq_go ?_
  unfold jm_nx
  rw [hc, hd]
  have hc2 : (9 ≤ a ∧ a < 145) ∧ (jT0 n a).1 = 2 := by
    unfold jLZ at hm
    split at hm
    · assumption
    · omega
  have e : (jT0 n a).2 = m := by rw [← hm]; unfold jLZ; rw [if_pos hc2]
  have hi := jm_in_nI h31 hk
  have h4 : jm_rw (jS n I L) a = true ∧ ((jS n I L).2.1 a).1 = 2 ∧ jm_in (nI k) ((jS n I L).2.1 a).2 = true := ⟨decide_eq_true hc2.1, hc2.2, by show jm_in (nI k) (jT0 n a).2 = true; rw [e]; exact hi.1⟩
  simp only [if_pos h4, hi.2]
  rfl
theorem jq_lald {k m a : Nat} (hc : jr_cd r = cc) (hd : decode cc pc = .ok (.laload, 1)) (hp : pc + 1 = pc') (hm : jLL n a = m) (hk : k < m) (h31 : m < 2 ^ 31) : jE n r pc lv (.int (nI k) :: .ref a :: st) I L = jE n r pc' lv (.long (L a k) :: st) I L := by
  subst hp
  refine jq_go ?_
  unfold jm_nx
  rw [hc, hd]
  have hc2 : (9 ≤ a ∧ a < 145) ∧ (jT0 n a).1 = 1 := by
    unfold jLL at hm
    split at hm
    · assumption
    · omega
  have e : (jT0 n a).2 = m := by rw [← hm]; unfold jLL; rw [if_pos hc2]
  have hi := jm_in_nI h31 hk
  have h4 : jm_rw (jS n I L) a = true ∧ ((jS n I L).2.1 a).1 = 1 ∧ jm_in (nI k) ((jS n I L).2.1 a).2 = true := ⟨decide_eq_true hc2.1, hc2.2, by show jm_in (nI k) (jT0 n a).2 = true; rw [e]; exact hi.1⟩
  simp only [if_pos h4, hi.2]
  rfl
theorem jq_iast {k m a : Nat} {x : Int32} (hc : jr_cd r = cc) (hd : decode cc pc = .ok (.iastore, 1)) (hp : pc + 1 = pc') (hm : jLW n a = m) (hk : k < m) (h31 : m < 2 ^ 31) : jE n r pc lv (.int x :: .int (nI k) :: .ref a :: st) I L = jE n r pc' lv st (jm_u I a k x) L := by
  subst hp
  refine jq_go ?_
  unfold jm_nx
  rw [hc, hd]
  have hc2 : (9 ≤ a ∧ a < 145) ∧ (jT0 n a).1 = 0 := by
    unfold jLW at hm
    split at hm
    · assumption
    · omega
  have e : (jT0 n a).2 = m := by rw [← hm]; unfold jLW; rw [if_pos hc2]
  have hi := jm_in_nI h31 hk
  have h4 : jm_rw (jS n I L) a = true ∧ ((jS n I L).2.1 a).1 = 0 ∧ jm_in (nI k) ((jS n I L).2.1 a).2 = true := ⟨decide_eq_true hc2.1, hc2.2, by show jm_in (nI k) (jT0 n a).2 = true; rw [e]; exact hi.1⟩
  simp only [if_pos h4, hi.2]
  rfl
theorem jq_zast {k m a : Nat} {x y : Int32} (hc : jr_cd r = cc) (hd : decode cc pc = .ok (.bastore, 1)) (hp : pc + 1 = pc') (hm : jLZ n a = m) (hk : k < m) (h31 : m < 2 ^ 31) (hy : x &&& 1 = y) : jE n r pc lv (.int x :: .int (nI k) :: .ref a :: st) I L = jE n r pc' lv st (jm_u I a k y) L := by
  subst hp
  subst hy
  refine jq_go ?_
  unfold jm_nx
  rw [hc, hd]
  have hc2 : (9 ≤ a ∧ a < 145) ∧ (jT0 n a).1 = 2 := by
    unfold jLZ at hm
    split at hm
    · assumption
    · omega
  have e : (jT0 n a).2 = m := by rw [← hm]; unfold jLZ; rw [if_pos hc2]
  have hi := jm_in_nI h31 hk
  have h4 : jm_rw (jS n I L) a = true ∧ ((jS n I L).2.1 a).1 = 2 ∧ jm_in (nI k) ((jS n I L).2.1 a).2 = true := ⟨decide_eq_true hc2.1, hc2.2, by show jm_in (nI k) (jT0 n a).2 = true; rw [e]; exact hi.1⟩
  simp only [if_pos h4, hi.2]
  rfl
theorem jq_last {k m a : Nat} {x : Int64} (hc : jr_cd r = cc) (hd : decode cc pc = .ok (.lastore, 1)) (hp : pc + 1 = pc') (hm : jLL n a = m) (hk : k < m) (h31 : m < 2 ^ 31) : jE n r pc lv (.long x :: .int (nI k) :: .ref a :: st) I L = jE n r pc' lv st I (jm_uL L a k x) := by
  subst hp
  refine jq_go ?_
  unfold jm_nx
  rw [hc, hd]
  have hc2 : (9 ≤ a ∧ a < 145) ∧ (jT0 n a).1 = 1 := by
    unfold jLL at hm
    split at hm
    · assumption
    · omega
  have e : (jT0 n a).2 = m := by rw [← hm]; unfold jLL; rw [if_pos hc2]
  have hi := jm_in_nI h31 hk
  have h4 : jm_rw (jS n I L) a = true ∧ ((jS n I L).2.1 a).1 = 1 ∧ jm_in (nI k) ((jS n I L).2.1 a).2 = true := ⟨decide_eq_true hc2.1, hc2.2, by show jm_in (nI k) (jT0 n a).2 = true; rw [e]; exact hi.1⟩
  simp only [if_pos h4, hi.2]
  rfl
theorem jq_alen {m a : Nat} (hc : jr_cd r = cc) (hd : decode cc pc = .ok (.arraylength, 1)) (hp : pc + 1 = pc') (ha : a < 145 ∧ (jT0 n a).1 ≤ 3) (hm : (jT0 n a).2 = m) : jE n r pc lv (.ref a :: st) I L = jE n r pc' lv (.int (nI m) :: st) I L := by
  subst hp
  subst hm
  refine jq_go ?_
  unfold jm_nx
  rw [hc, hd]
  have h4 : a < (jS n I L).1 ∧ ((jS n I L).2.1 a).1 ≤ 3 := ha
  simp only [if_pos h4]
  rfl
theorem jq_aald {k a b : Nat} (hc : jr_cd r = cc) (hd : decode cc pc = .ok (.aaload, 1)) (hp : pc + 1 = pc') (ha : 9 ≤ a ∧ a < 145) (hT : jT0 n a = (3, 8)) (hk : k < 8) (hb : jP0 a k = some b) : jE n r pc lv (.int (nI k) :: .ref a :: st) I L = jE n r pc' lv (.ref b :: st) I L := by
  subst hp
  refine jq_go ?_
  unfold jm_nx
  rw [hc, hd]
  have hi := jm_in_nI (m := 8) (by decide) hk
  have h4 : jm_rw (jS n I L) a = true ∧ ((jS n I L).2.1 a).1 = 3 ∧ jm_in (nI k) ((jS n I L).2.1 a).2 = true := ⟨decide_eq_true ha, by show (jT0 n a).1 = 3; rw [hT], by show jm_in (nI k) (jT0 n a).2 = true; rw [hT]; exact hi.1⟩
  have h5 : (jS n I L).2.2.1 a k = some b := hb
  simp only [if_pos h4, hi.2, h5]
  rfl
theorem jq_math {k y z : Nat} {w : List Value} {v : Value} (hc : jr_cd r = cc) (hd : decode cc pc = .ok (.invokestatic k, 3)) (hk : jm_pool (jr_ow r) k = some (6, y, z)) (h : 1 ≤ jr_fr r ∧ 23 ≤ jr_lo r) (hcat : jm_cat st ≤ 8) (hv : jm_mv y w v) (hp : pc + 3 = pc') : jE n r pc lv (w ++ st) I L = jE n r pc' lv (v :: st) I L := by
  subst hp
  refine jq_go ?_
  unfold jm_nx
  rw [hc, hd]
  have h4 : 1 ≤ jr_fr r ∧ 23 ≤ jr_lo r ∧ 0 ≤ jr_mc r ∧ 0 ≤ jr_ms r := ⟨h.1, h.2, Nat.zero_le _, Nat.zero_le _⟩
  simp only [hk]
  clear hk
  match y, hv with
  | 0, hv => obtain ⟨a, c, rfl, rfl⟩ := hv; simp only [if_pos h4, List.cons_append, List.nil_append, if_pos hcat]; rfl
  | 1, hv => obtain ⟨a, c, rfl, rfl⟩ := hv; simp only [if_pos h4, List.cons_append, List.nil_append, if_pos hcat]; rfl
  | 2, hv => obtain ⟨a, c, rfl, rfl⟩ := hv; simp only [if_pos h4, List.cons_append, List.nil_append, if_pos hcat]; rfl
  | 3, hv => obtain ⟨a, c, rfl, rfl⟩ := hv; simp only [if_pos h4, List.cons_append, List.nil_append, if_pos hcat]; rfl
  | 4, hv => obtain ⟨a, rfl, rfl⟩ := hv; simp only [if_pos h4, List.cons_append, List.nil_append, if_pos hcat]; rfl
theorem jq_acp {k y z m a b : Nat} (hc : jr_cd r = cc) (hd : decode cc pc = .ok (.invokestatic k, 3)) (hk : jm_pool (jr_ow r) k = some (2, y, z)) (h : 1 ≤ jr_fr r ∧ 40 ≤ jr_lo r) (ha : jLW n a = m) (hb : jLW n b = m) (hm : 0 < m) (h31 : m < 2 ^ 31) (hp : pc + 3 = pc') : jE n r pc lv [.int (nI m), .int 0, .ref a, .int 0, .ref b] I L = jE n r pc' lv [] (jm_uA I a (va_cpy (I b) (I a) 0 0 m)) L := by
  subst hp
  refine jq_go ?_
  unfold jm_nx
  rw [hc, hd]
  have u : ∀ a, jLW n a = m → (9 ≤ a ∧ a < 145) ∧ (jT0 n a).1 = 0 ∧ (jT0 n a).2 = m := by
    intro a ha
    unfold jLW at ha
    split at ha
    · rename_i hq; exact ⟨hq.1, hq.2, ha⟩
    · omega
  obtain ⟨a1, a2, a3⟩ := u a ha
  obtain ⟨b1, b2, b3⟩ := u b hb
  have z0 : (0 : Int32).toNatClampNeg = 0 := rfl
  have zm : (nI m).toNatClampNeg = m := nI_clamp h31
  have h4 : jm_rw (jS n I L) a = true ∧ jm_rw (jS n I L) b = true ∧ ((jS n I L).2.1 a).1 = 0 ∧ ((jS n I L).2.1 b).1 = 0 ∧ ¬ (0 : Int32) < 0 ∧ ¬ (0 : Int32) < 0 ∧ ¬ nI m < 0 ∧ (0 : Int32).toNatClampNeg + (nI m).toNatClampNeg ≤ ((jS n I L).2.1 b).2 ∧ (0 : Int32).toNatClampNeg + (nI m).toNatClampNeg ≤ ((jS n I L).2.1 a).2 ∧ 1 ≤ jr_fr r ∧ 40 ≤ jr_lo r :=
    ⟨decide_eq_true a1, decide_eq_true b1, a2, b2, by decide, by decide, nI_pos h31, by rw [z0, zm]; show 0 + m ≤ (jT0 n b).2; omega, by rw [z0, zm]; show 0 + m ≤ (jT0 n a).2; omega, h.1, h.2⟩
  simp only [hk]
  rw [if_pos h4]
  simp only [z0, zm]
  rfl
theorem jq_ret_i {x : Int32} (hc : jr_cd r = cc) (hd : decode cc pc = .ok (.ireturn, 1)) (hr : jr_rt r = some .int) : jE n r pc lv [.int x] I L = some (some (.int x), jS n I L) := by
  refine jq_rt ?_
  unfold jm_nx
  rw [hc, hd]
  have h4 : 0 ≤ jr_mc r ∧ 0 ≤ jr_ms r := ⟨Nat.zero_le _, Nat.zero_le _⟩
  simp only [hr, if_pos h4]
  rfl
theorem jq_ret_z {x : Int32} (hc : jr_cd r = cc) (hd : decode cc pc = .ok (.ireturn, 1)) (hr : jr_rt r = some .boolean) (hx : x = 0 ∨ x = 1) : jE n r pc lv [.int x] I L = some (some (.int x), jS n I L) := by
  refine jq_rt ?_
  unfold jm_nx
  rw [hc, hd]
  have h4 : (x = 0 ∨ x = 1) ∧ 0 ≤ jr_mc r ∧ 0 ≤ jr_ms r := ⟨hx, Nat.zero_le _, Nat.zero_le _⟩
  simp only [hr, if_pos h4]
  rfl
theorem jq_ret_l {x : Int64} (hc : jr_cd r = cc) (hd : decode cc pc = .ok (.lreturn, 1)) (hr : jr_rt r = some .long) : jE n r pc lv [.long x] I L = some (some (.long x), jS n I L) := by
  refine jq_rt ?_
  unfold jm_nx
  rw [hc, hd]
  have h4 : 0 ≤ jr_mc r ∧ 0 ≤ jr_ms r := ⟨Nat.zero_le _, Nat.zero_le _⟩
  simp only [hr, if_pos h4]
  rfl
theorem jq_ret_o {x : Nat} {C : String} (hc : jr_cd r = cc) (hd : decode cc pc = .ok (.areturn, 1)) (hr : jr_rt r = some (.object C)) : jE n r pc lv [.ref x] I L = some (some (.ref x), jS n I L) := by
  refine jq_rt ?_
  unfold jm_nx
  rw [hc, hd]
  have h4 : 0 ≤ jr_mc r ∧ 0 ≤ jr_ms r := ⟨Nat.zero_le _, Nat.zero_le _⟩
  simp only [hr, if_pos h4]
  rfl
theorem jq_ret_a {x : Nat} {C : FieldType} (hc : jr_cd r = cc) (hd : decode cc pc = .ok (.areturn, 1)) (hr : jr_rt r = some (.array C)) : jE n r pc lv [.ref x] I L = some (some (.ref x), jS n I L) := by
  refine jq_rt ?_
  unfold jm_nx
  rw [hc, hd]
  have h4 : 0 ≤ jr_mc r ∧ 0 ≤ jr_ms r := ⟨Nat.zero_le _, Nat.zero_le _⟩
  simp only [hr, if_pos h4]
  rfl
theorem jq_ret_v (hc : jr_cd r = cc) (hd : decode cc pc = .ok (.return_, 1)) (hr : jr_rt r = none) : jE n r pc lv [] I L = some (none, jS n I L) := by
  refine jq_rt ?_
  unfold jm_nx
  rw [hc, hd]
  have h4 : 0 ≤ jr_mc r ∧ 0 ≤ jr_ms r := ⟨Nat.zero_le _, Nat.zero_le _⟩
  simp only [hr, if_pos h4]
  rfl
theorem jq_callV {k y z a : Nat} {q : jm_Row} {As : List Value} (hc : jr_cd r = cc) (hd : decode cc pc = .ok (.invokevirtual k, 3)) (hk : jm_pool (jr_ow r) k = some (0, y, z)) (hq : jm_rows[y]? = some q) (hkd : jr_kd q = 0) (hst : st.drop (jr_ar q) = .ref a :: rest) (hAs : (st.take (jr_ar q)).reverse = As) (hl : jr_ar q ≤ st.length) (h1 : 9 ≤ a ∧ a < 145) (h2 : jT0 n a = (jr_ow q + 4, jm_fn (jr_ow q))) (hok : jm_cok3 r q 0 0 (.ref a :: As) rest = true) (hz : jr_mc q = 0) (hs : jr_ms q = 0) (hp : pc + 3 = pc') (hi : jm_ini (.ref a :: As) (jr_ml q) = lv') : jE n r pc lv st I L = jB r pc' lv rest (jE n q 0 lv' [] I L) := by
  subst hp
  subst hi
  subst hAs
  refine jq_ca ?_ hz hs
  unfold jm_nx
  rw [hc, hd]
  have h4 : jr_kd q = 0 ∧ jr_ar q ≤ st.length ∧ jm_rw (jS n I L) a = true ∧ (jS n I L).2.1 a = (jr_ow q + 4, jm_fn (jr_ow q)) ∧ jm_cok3 r q 0 0 (.ref a :: (st.take (jr_ar q)).reverse) rest = true := ⟨hkd, hl, decide_eq_true h1, h2, hok⟩
  simp only [hk, hq, hst, if_pos h4]
  rfl
theorem jq_callS {k y z : Nat} {q : jm_Row} {As : List Value} (hc : jr_cd r = cc) (hd : decode cc pc = .ok (.invokestatic k, 3)) (hk : jm_pool (jr_ow r) k = some (0, y, z)) (hq : jm_rows[y]? = some q) (hkd : jr_kd q = 1) (hst : st.drop (jr_ar q) = rest) (hAs : (st.take (jr_ar q)).reverse = As) (hl : jr_ar q ≤ st.length) (hok : jm_cok2 r q 0 0 As rest = true) (hz : jr_mc q = 0) (hs : jr_ms q = 0) (hp : pc + 3 = pc') (hi : jm_ini As (jr_ml q) = lv') : jE n r pc lv st I L = jB r pc' lv rest (jE n q 0 lv' [] I L) := by
  subst hp
  subst hi
  subst hAs
  subst hst
  refine jq_ca ?_ hz hs
  unfold jm_nx
  rw [hc, hd]
  have h4 : jr_kd q = 1 ∧ jr_ar q ≤ st.length ∧ jm_cok2 r q 0 0 (st.take (jr_ar q)).reverse (st.drop (jr_ar q)) = true := ⟨hkd, hl, hok⟩
  simp only [hk, hq, if_pos h4]
  rfl
end JQ
theorem jT0_9 (n : Nat) : jT0 n 9 = (13, 9) := rfl
theorem jT0_10 (n : Nat) : jT0 n 10 = (12, 5) := rfl
theorem jT0_11 (n : Nat) : jT0 n 11 = (0, 5) := rfl
theorem jT0_12 (n : Nat) : jT0 n 12 = (6, 8) := rfl
theorem jT0_13 (n : Nat) : jT0 n 13 = (2, 4) := rfl
theorem jT0_14 (n : Nat) : jT0 n 14 = (0, 4) := rfl
theorem jT0_15 (n : Nat) : jT0 n 15 = (0, 4) := rfl
theorem jT0_16 (n : Nat) : jT0 n 16 = (0, 4) := rfl
theorem jT0_17 (n : Nat) : jT0 n 17 = (0, 4) := rfl
theorem jT0_18 (n : Nat) : jT0 n 18 = (0, 16) := rfl
theorem jT0_19 (n : Nat) : jT0 n 19 = (0, 4) := rfl
theorem jT0_20 (n : Nat) : jT0 n 20 = (0, 4) := rfl
theorem jT0_21 (n : Nat) : jT0 n 21 = (10, 4) := rfl
theorem jT0_22 (n : Nat) : jT0 n 22 = (0, 6) := rfl
theorem jT0_23 (n : Nat) : jT0 n 23 = (0, 4) := rfl
theorem jT0_24 (n : Nat) : jT0 n 24 = (0, 4) := rfl
theorem jT0_25 (n : Nat) : jT0 n 25 = (0, 4) := rfl
theorem jT0_26 (n : Nat) : jT0 n 26 = (7, 9) := rfl
theorem jT0_27 (n : Nat) : jT0 n 27 = (0, 40) := rfl
theorem jT0_28 (n : Nat) : jT0 n 28 = (0, 40) := rfl
theorem jT0_29 (n : Nat) : jT0 n 29 = (0, 40) := rfl
theorem jT0_30 (n : Nat) : jT0 n 30 = (0, 40) := rfl
theorem jT0_31 (n : Nat) : jT0 n 31 = (0, 40) := rfl
theorem jT0_32 (n : Nat) : jT0 n 32 = (0, 40) := rfl
theorem jT0_33 (n : Nat) : jT0 n 33 = (0, 40) := rfl
theorem jT0_34 (n : Nat) : jT0 n 34 = (0, 160) := rfl
theorem jT0_35 (n : Nat) : jT0 n 35 = (8, 3) := rfl
theorem jT0_36 (n : Nat) : jT0 n 36 = (0, 24) := rfl
theorem jT0_37 (n : Nat) : jT0 n 37 = (0, 8) := rfl
theorem jT0_38 (n : Nat) : jT0 n 38 = (12, 5) := rfl
theorem jT0_39 (n : Nat) : jT0 n 39 = (0, 5) := rfl
theorem jT0_40 (n : Nat) : jT0 n 40 = (6, 8) := rfl
theorem jT0_41 (n : Nat) : jT0 n 41 = (2, 4) := rfl
theorem jT0_42 (n : Nat) : jT0 n 42 = (0, 4) := rfl
theorem jT0_43 (n : Nat) : jT0 n 43 = (0, 4) := rfl
theorem jT0_44 (n : Nat) : jT0 n 44 = (0, 4) := rfl
theorem jT0_45 (n : Nat) : jT0 n 45 = (0, 4) := rfl
theorem jT0_46 (n : Nat) : jT0 n 46 = (0, 16) := rfl
theorem jT0_47 (n : Nat) : jT0 n 47 = (0, 4) := rfl
theorem jT0_48 (n : Nat) : jT0 n 48 = (0, 4) := rfl
theorem jT0_49 (n : Nat) : jT0 n 49 = (10, 4) := rfl
theorem jT0_50 (n : Nat) : jT0 n 50 = (0, 6) := rfl
theorem jT0_51 (n : Nat) : jT0 n 51 = (0, 4) := rfl
theorem jT0_52 (n : Nat) : jT0 n 52 = (0, 4) := rfl
theorem jT0_53 (n : Nat) : jT0 n 53 = (0, 4) := rfl
theorem jT0_54 (n : Nat) : jT0 n 54 = (7, 9) := rfl
theorem jT0_55 (n : Nat) : jT0 n 55 = (0, 40) := rfl
theorem jT0_56 (n : Nat) : jT0 n 56 = (0, 40) := rfl
theorem jT0_57 (n : Nat) : jT0 n 57 = (0, 40) := rfl
theorem jT0_58 (n : Nat) : jT0 n 58 = (0, 40) := rfl
theorem jT0_59 (n : Nat) : jT0 n 59 = (0, 40) := rfl
theorem jT0_60 (n : Nat) : jT0 n 60 = (0, 40) := rfl
theorem jT0_61 (n : Nat) : jT0 n 61 = (0, 40) := rfl
theorem jT0_62 (n : Nat) : jT0 n 62 = (0, 160) := rfl
theorem jT0_63 (n : Nat) : jT0 n 63 = (8, 3) := rfl
theorem jT0_64 (n : Nat) : jT0 n 64 = (0, 24) := rfl
theorem jT0_65 (n : Nat) : jT0 n 65 = (0, 8) := rfl
theorem jT0_66 (n : Nat) : jT0 n 66 = (9, 4) := rfl
theorem jT0_67 (n : Nat) : jT0 n 67 = (0, 20) := rfl
theorem jT0_68 (n : Nat) : jT0 n 68 = (0, 3) := rfl
theorem jT0_69 (n : Nat) : jT0 n 69 = (0, 80) := rfl
theorem jT0_70 (n : Nat) : jT0 n 70 = (0, 6) := rfl
theorem jT0_71 (n : Nat) : jT0 n 71 = (5, 3) := rfl
theorem jT0_72 (n : Nat) : jT0 n 72 = (3, 8) := rfl
theorem jT0_73 (n : Nat) : jT0 n 73 = (0, 8) := rfl
theorem jT0_74 (n : Nat) : jT0 n 74 = (1, 343) := rfl
theorem jT0_75 (n : Nat) : jT0 n 75 = (4, 8) := rfl
theorem jT0_76 (n : Nat) : jT0 n 76 = (1, 343) := rfl
theorem jT0_77 (n : Nat) : jT0 n 77 = (0, 7) := rfl
theorem jT0_78 (n : Nat) : jT0 n 78 = (0, 3) := rfl
theorem jT0_79 (n : Nat) : jT0 n 79 = (4, 8) := rfl
theorem jT0_80 (n : Nat) : jT0 n 80 = (1, 343) := rfl
theorem jT0_81 (n : Nat) : jT0 n 81 = (0, 7) := rfl
theorem jT0_82 (n : Nat) : jT0 n 82 = (0, 3) := rfl
theorem jT0_83 (n : Nat) : jT0 n 83 = (4, 8) := rfl
theorem jT0_84 (n : Nat) : jT0 n 84 = (1, 343) := rfl
theorem jT0_85 (n : Nat) : jT0 n 85 = (0, 7) := rfl
theorem jT0_86 (n : Nat) : jT0 n 86 = (0, 3) := rfl
theorem jT0_87 (n : Nat) : jT0 n 87 = (4, 8) := rfl
theorem jT0_88 (n : Nat) : jT0 n 88 = (1, 343) := rfl
theorem jT0_89 (n : Nat) : jT0 n 89 = (0, 7) := rfl
theorem jT0_90 (n : Nat) : jT0 n 90 = (0, 3) := rfl
theorem jT0_91 (n : Nat) : jT0 n 91 = (4, 8) := rfl
theorem jT0_92 (n : Nat) : jT0 n 92 = (1, 343) := rfl
theorem jT0_93 (n : Nat) : jT0 n 93 = (0, 7) := rfl
theorem jT0_94 (n : Nat) : jT0 n 94 = (0, 3) := rfl
theorem jT0_95 (n : Nat) : jT0 n 95 = (4, 8) := rfl
theorem jT0_96 (n : Nat) : jT0 n 96 = (1, 343) := rfl
theorem jT0_97 (n : Nat) : jT0 n 97 = (0, 7) := rfl
theorem jT0_98 (n : Nat) : jT0 n 98 = (0, 3) := rfl
theorem jT0_99 (n : Nat) : jT0 n 99 = (4, 8) := rfl
theorem jT0_100 (n : Nat) : jT0 n 100 = (1, 343) := rfl
theorem jT0_101 (n : Nat) : jT0 n 101 = (0, 7) := rfl
theorem jT0_102 (n : Nat) : jT0 n 102 = (0, 3) := rfl
theorem jT0_103 (n : Nat) : jT0 n 103 = (4, 8) := rfl
theorem jT0_104 (n : Nat) : jT0 n 104 = (1, 343) := rfl
theorem jT0_105 (n : Nat) : jT0 n 105 = (0, 7) := rfl
theorem jT0_106 (n : Nat) : jT0 n 106 = (0, 3) := rfl
theorem jT0_107 (n : Nat) : jT0 n 107 = (11, 5) := rfl
theorem jT0_108 (n : Nat) : jT0 n 108 = (1, 96) := rfl
theorem jT0_109 (n : Nat) : jT0 n 109 = (1, 336) := rfl
theorem jT0_110 (n : Nat) : jT0 n 110 = (0, 4) := rfl
theorem jT0_111 (n : Nat) : jT0 n 111 = (14, 44) := rfl
theorem jT0_112 (n : Nat) : jT0 n 112 = (0, 7) := rfl
theorem jT0_113 (n : Nat) : jT0 n 113 = (0, 4) := rfl
theorem jT0_114 (n : Nat) : jT0 n 114 = (0, 4) := rfl
theorem jT0_115 (n : Nat) : jT0 n 115 = (0, 4) := rfl
theorem jT0_116 (n : Nat) : jT0 n 116 = (0, 4) := rfl
theorem jT0_117 (n : Nat) : jT0 n 117 = (0, 16) := rfl
theorem jT0_118 (n : Nat) : jT0 n 118 = (0, 5) := rfl
theorem jT0_119 (n : Nat) : jT0 n 119 = (2, 4) := rfl
theorem jT0_120 (n : Nat) : jT0 n 120 = (0, 8) := rfl
theorem jT0_121 (n : Nat) : jT0 n 121 = (0, 6) := rfl
theorem jT0_122 (n : Nat) : jT0 n 122 = (0, 4) := rfl
theorem jT0_123 (n : Nat) : jT0 n 123 = (0, 4) := rfl
theorem jT0_124 (n : Nat) : jT0 n 124 = (0, 4) := rfl
theorem jT0_125 (n : Nat) : jT0 n 125 = (0, 40) := rfl
theorem jT0_126 (n : Nat) : jT0 n 126 = (0, 40) := rfl
theorem jT0_127 (n : Nat) : jT0 n 127 = (0, 40) := rfl
theorem jT0_128 (n : Nat) : jT0 n 128 = (0, 40) := rfl
theorem jT0_129 (n : Nat) : jT0 n 129 = (0, 40) := rfl
theorem jT0_130 (n : Nat) : jT0 n 130 = (0, 40) := rfl
theorem jT0_131 (n : Nat) : jT0 n 131 = (0, 40) := rfl
theorem jT0_132 (n : Nat) : jT0 n 132 = (0, 80) := rfl
theorem jT0_133 (n : Nat) : jT0 n 133 = (0, 20) := rfl
theorem jT0_134 (n : Nat) : jT0 n 134 = (0, 72) := rfl
theorem jT0_135 (n : Nat) : jT0 n 135 = (0, 9) := rfl
theorem jT0_136 (n : Nat) : jT0 n 136 = (0, 4) := rfl
theorem jT0_137 (n : Nat) : jT0 n 137 = (0, 4) := rfl
theorem jT0_138 (n : Nat) : jT0 n 138 = (0, 40) := rfl
theorem jT0_139 (n : Nat) : jT0 n 139 = (0, 8) := rfl
theorem jT0_140 (n : Nat) : jT0 n 140 = (1, 360) := rfl
theorem jT0_141 (n : Nat) : jT0 n 141 = (1, 2240) := rfl
theorem jT0_142 (n : Nat) : jT0 n 142 = (0, 8) := rfl
theorem jT0_143 (n : Nat) : jT0 n 143 = (0, 160) := rfl
theorem jT0_144 (n : Nat) : jT0 n 144 = (0, 1000) := rfl
theorem jT0_0 (n : Nat) : jT0 n 0 = (0, 5) := rfl
theorem jT0_1 (n : Nat) : jT0 n 1 = (0, 5) := rfl
theorem jT0_2 (n : Nat) : jT0 n 2 = (0, 8) := rfl
theorem jT0_3 (n : Nat) : jT0 n 3 = (0, 4) := rfl
theorem jT0_4 (n : Nat) : jT0 n 4 = (0, 4) := rfl
theorem jT0_5 (n : Nat) : jT0 n 5 = (0, 4) := rfl
theorem jT0_6 (n : Nat) : jT0 n 6 = (0, 8) := rfl
theorem jT0_7 (n : Nat) : jT0 n 7 = (0, 4) := rfl
theorem jT0_8 (n : Nat) : jT0 n 8 = (0, min n 3584) := rfl
set_option maxRecDepth 20000 in
theorem jLI_t (n : Nat) : jLI n 0 = 5 ∧ jLI n 1 = 5 ∧ jLI n 2 = 8 ∧ jLI n 3 = 4 ∧ jLI n 4 = 4 ∧ jLI n 5 = 4 ∧ jLI n 6 = 8 ∧ jLI n 7 = 4 ∧ jLI n 11 = 5 ∧ jLI n 14 = 4 ∧ jLI n 15 = 4 ∧ jLI n 16 = 4 ∧ jLI n 17 = 4 ∧ jLI n 18 = 16 ∧ jLI n 19 = 4 ∧ jLI n 20 = 4 ∧ jLI n 22 = 6 ∧ jLI n 23 = 4 ∧ jLI n 24 = 4 ∧ jLI n 25 = 4 ∧ jLI n 27 = 40 ∧ jLI n 28 = 40 ∧ jLI n 29 = 40 ∧ jLI n 30 = 40 ∧ jLI n 31 = 40 ∧ jLI n 32 = 40 ∧ jLI n 33 = 40 ∧ jLI n 34 = 160 ∧ jLI n 36 = 24 ∧ jLI n 37 = 8 ∧ jLI n 39 = 5 ∧ jLI n 42 = 4 ∧ jLI n 43 = 4 ∧ jLI n 44 = 4 ∧ jLI n 45 = 4 ∧ jLI n 46 = 16 ∧ jLI n 47 = 4 ∧ jLI n 48 = 4 ∧ jLI n 50 = 6 ∧ jLI n 51 = 4 ∧ jLI n 52 = 4 ∧ jLI n 53 = 4 ∧ jLI n 55 = 40 ∧ jLI n 56 = 40 ∧ jLI n 57 = 40 ∧ jLI n 58 = 40 ∧ jLI n 59 = 40 ∧ jLI n 60 = 40 ∧ jLI n 61 = 40 ∧ jLI n 62 = 160 ∧ jLI n 64 = 24 ∧ jLI n 65 = 8 ∧ jLI n 67 = 20 ∧ jLI n 68 = 3 ∧ jLI n 69 = 80 ∧ jLI n 70 = 6 ∧ jLI n 73 = 8 ∧ jLI n 77 = 7 ∧ jLI n 78 = 3 ∧ jLI n 81 = 7 ∧ jLI n 82 = 3 ∧ jLI n 85 = 7 ∧ jLI n 86 = 3 ∧ jLI n 89 = 7 ∧ jLI n 90 = 3 ∧ jLI n 93 = 7 ∧ jLI n 94 = 3 ∧ jLI n 97 = 7 ∧ jLI n 98 = 3 ∧ jLI n 101 = 7 ∧ jLI n 102 = 3 ∧ jLI n 105 = 7 ∧ jLI n 106 = 3 ∧ jLI n 110 = 4 ∧ jLI n 112 = 7 ∧ jLI n 113 = 4 ∧ jLI n 114 = 4 ∧ jLI n 115 = 4 ∧ jLI n 116 = 4 ∧ jLI n 117 = 16 ∧ jLI n 118 = 5 ∧ jLI n 120 = 8 ∧ jLI n 121 = 6 ∧ jLI n 122 = 4 ∧ jLI n 123 = 4 ∧ jLI n 124 = 4 ∧ jLI n 125 = 40 ∧ jLI n 126 = 40 ∧ jLI n 127 = 40 ∧ jLI n 128 = 40 ∧ jLI n 129 = 40 ∧ jLI n 130 = 40 ∧ jLI n 131 = 40 ∧ jLI n 132 = 80 ∧ jLI n 133 = 20 ∧ jLI n 134 = 72 ∧ jLI n 135 = 9 ∧ jLI n 136 = 4 ∧ jLI n 137 = 4 ∧ jLI n 138 = 40 ∧ jLI n 139 = 8 ∧ jLI n 142 = 8 ∧ jLI n 143 = 160 ∧ jLI n 144 = 1000 := ⟨rfl, rfl, rfl, rfl, rfl, rfl, rfl, rfl, rfl, rfl, rfl, rfl, rfl, rfl, rfl, rfl, rfl, rfl, rfl, rfl, rfl, rfl, rfl, rfl, rfl, rfl, rfl, rfl, rfl, rfl, rfl, rfl, rfl, rfl, rfl, rfl, rfl, rfl, rfl, rfl, rfl, rfl, rfl, rfl, rfl, rfl, rfl, rfl, rfl, rfl, rfl, rfl, rfl, rfl, rfl, rfl, rfl, rfl, rfl, rfl, rfl, rfl, rfl, rfl, rfl, rfl, rfl, rfl, rfl, rfl, rfl, rfl, rfl, rfl, rfl, rfl, rfl, rfl, rfl, rfl, rfl, rfl, rfl, rfl, rfl, rfl, rfl, rfl, rfl, rfl, rfl, rfl, rfl, rfl, rfl, rfl, rfl, rfl, rfl, rfl, rfl, rfl, rfl, rfl⟩
set_option maxRecDepth 20000 in
theorem jLW_t (n : Nat) : jLW n 11 = 5 ∧ jLW n 14 = 4 ∧ jLW n 15 = 4 ∧ jLW n 16 = 4 ∧ jLW n 17 = 4 ∧ jLW n 18 = 16 ∧ jLW n 19 = 4 ∧ jLW n 20 = 4 ∧ jLW n 22 = 6 ∧ jLW n 23 = 4 ∧ jLW n 24 = 4 ∧ jLW n 25 = 4 ∧ jLW n 27 = 40 ∧ jLW n 28 = 40 ∧ jLW n 29 = 40 ∧ jLW n 30 = 40 ∧ jLW n 31 = 40 ∧ jLW n 32 = 40 ∧ jLW n 33 = 40 ∧ jLW n 34 = 160 ∧ jLW n 36 = 24 ∧ jLW n 37 = 8 ∧ jLW n 39 = 5 ∧ jLW n 42 = 4 ∧ jLW n 43 = 4 ∧ jLW n 44 = 4 ∧ jLW n 45 = 4 ∧ jLW n 46 = 16 ∧ jLW n 47 = 4 ∧ jLW n 48 = 4 ∧ jLW n 50 = 6 ∧ jLW n 51 = 4 ∧ jLW n 52 = 4 ∧ jLW n 53 = 4 ∧ jLW n 55 = 40 ∧ jLW n 56 = 40 ∧ jLW n 57 = 40 ∧ jLW n 58 = 40 ∧ jLW n 59 = 40 ∧ jLW n 60 = 40 ∧ jLW n 61 = 40 ∧ jLW n 62 = 160 ∧ jLW n 64 = 24 ∧ jLW n 65 = 8 ∧ jLW n 67 = 20 ∧ jLW n 68 = 3 ∧ jLW n 69 = 80 ∧ jLW n 70 = 6 ∧ jLW n 73 = 8 ∧ jLW n 77 = 7 ∧ jLW n 78 = 3 ∧ jLW n 81 = 7 ∧ jLW n 82 = 3 ∧ jLW n 85 = 7 ∧ jLW n 86 = 3 ∧ jLW n 89 = 7 ∧ jLW n 90 = 3 ∧ jLW n 93 = 7 ∧ jLW n 94 = 3 ∧ jLW n 97 = 7 ∧ jLW n 98 = 3 ∧ jLW n 101 = 7 ∧ jLW n 102 = 3 ∧ jLW n 105 = 7 ∧ jLW n 106 = 3 ∧ jLW n 110 = 4 ∧ jLW n 112 = 7 ∧ jLW n 113 = 4 ∧ jLW n 114 = 4 ∧ jLW n 115 = 4 ∧ jLW n 116 = 4 ∧ jLW n 117 = 16 ∧ jLW n 118 = 5 ∧ jLW n 120 = 8 ∧ jLW n 121 = 6 ∧ jLW n 122 = 4 ∧ jLW n 123 = 4 ∧ jLW n 124 = 4 ∧ jLW n 125 = 40 ∧ jLW n 126 = 40 ∧ jLW n 127 = 40 ∧ jLW n 128 = 40 ∧ jLW n 129 = 40 ∧ jLW n 130 = 40 ∧ jLW n 131 = 40 ∧ jLW n 132 = 80 ∧ jLW n 133 = 20 ∧ jLW n 134 = 72 ∧ jLW n 135 = 9 ∧ jLW n 136 = 4 ∧ jLW n 137 = 4 ∧ jLW n 138 = 40 ∧ jLW n 139 = 8 ∧ jLW n 142 = 8 ∧ jLW n 143 = 160 ∧ jLW n 144 = 1000 := ⟨rfl, rfl, rfl, rfl, rfl, rfl, rfl, rfl, rfl, rfl, rfl, rfl, rfl, rfl, rfl, rfl, rfl, rfl, rfl, rfl, rfl, rfl, rfl, rfl, rfl, rfl, rfl, rfl, rfl, rfl, rfl, rfl, rfl, rfl, rfl, rfl, rfl, rfl, rfl, rfl, rfl, rfl, rfl, rfl, rfl, rfl, rfl, rfl, rfl, rfl, rfl, rfl, rfl, rfl, rfl, rfl, rfl, rfl, rfl, rfl, rfl, rfl, rfl, rfl, rfl, rfl, rfl, rfl, rfl, rfl, rfl, rfl, rfl, rfl, rfl, rfl, rfl, rfl, rfl, rfl, rfl, rfl, rfl, rfl, rfl, rfl, rfl, rfl, rfl, rfl, rfl, rfl, rfl, rfl, rfl, rfl⟩
theorem jLL_t (n : Nat) : jLL n 74 = 343 ∧ jLL n 76 = 343 ∧ jLL n 80 = 343 ∧ jLL n 84 = 343 ∧ jLL n 88 = 343 ∧ jLL n 92 = 343 ∧ jLL n 96 = 343 ∧ jLL n 100 = 343 ∧ jLL n 104 = 343 ∧ jLL n 108 = 96 ∧ jLL n 109 = 336 ∧ jLL n 140 = 360 ∧ jLL n 141 = 2240 := ⟨rfl, rfl, rfl, rfl, rfl, rfl, rfl, rfl, rfl, rfl, rfl, rfl, rfl⟩
theorem jLZ_t (n : Nat) : jLZ n 13 = 4 ∧ jLZ n 41 = 4 ∧ jLZ n 119 = 4 := ⟨rfl, rfl, rfl⟩
set_option maxRecDepth 20000 in
theorem jLA_t (n : Nat) : jLA n 0 = 5 ∧ jLA n 1 = 5 ∧ jLA n 2 = 8 ∧ jLA n 3 = 4 ∧ jLA n 4 = 4 ∧ jLA n 5 = 4 ∧ jLA n 6 = 8 ∧ jLA n 7 = 4 ∧ jLA n 11 = 5 ∧ jLA n 14 = 4 ∧ jLA n 15 = 4 ∧ jLA n 16 = 4 ∧ jLA n 17 = 4 ∧ jLA n 18 = 16 ∧ jLA n 19 = 4 ∧ jLA n 20 = 4 ∧ jLA n 22 = 6 ∧ jLA n 23 = 4 ∧ jLA n 24 = 4 ∧ jLA n 25 = 4 ∧ jLA n 27 = 40 ∧ jLA n 28 = 40 ∧ jLA n 29 = 40 ∧ jLA n 30 = 40 ∧ jLA n 31 = 40 ∧ jLA n 32 = 40 ∧ jLA n 33 = 40 ∧ jLA n 34 = 160 ∧ jLA n 36 = 24 ∧ jLA n 37 = 8 ∧ jLA n 39 = 5 ∧ jLA n 42 = 4 ∧ jLA n 43 = 4 ∧ jLA n 44 = 4 ∧ jLA n 45 = 4 ∧ jLA n 46 = 16 ∧ jLA n 47 = 4 ∧ jLA n 48 = 4 ∧ jLA n 50 = 6 ∧ jLA n 51 = 4 ∧ jLA n 52 = 4 ∧ jLA n 53 = 4 ∧ jLA n 55 = 40 ∧ jLA n 56 = 40 ∧ jLA n 57 = 40 ∧ jLA n 58 = 40 ∧ jLA n 59 = 40 ∧ jLA n 60 = 40 ∧ jLA n 61 = 40 ∧ jLA n 62 = 160 ∧ jLA n 64 = 24 ∧ jLA n 65 = 8 ∧ jLA n 67 = 20 ∧ jLA n 68 = 3 ∧ jLA n 69 = 80 ∧ jLA n 70 = 6 ∧ jLA n 73 = 8 ∧ jLA n 77 = 7 ∧ jLA n 78 = 3 ∧ jLA n 81 = 7 ∧ jLA n 82 = 3 ∧ jLA n 85 = 7 ∧ jLA n 86 = 3 ∧ jLA n 89 = 7 ∧ jLA n 90 = 3 ∧ jLA n 93 = 7 ∧ jLA n 94 = 3 ∧ jLA n 97 = 7 ∧ jLA n 98 = 3 ∧ jLA n 101 = 7 ∧ jLA n 102 = 3 ∧ jLA n 105 = 7 ∧ jLA n 106 = 3 ∧ jLA n 110 = 4 ∧ jLA n 112 = 7 ∧ jLA n 113 = 4 ∧ jLA n 114 = 4 ∧ jLA n 115 = 4 ∧ jLA n 116 = 4 ∧ jLA n 117 = 16 ∧ jLA n 118 = 5 ∧ jLA n 120 = 8 ∧ jLA n 121 = 6 ∧ jLA n 122 = 4 ∧ jLA n 123 = 4 ∧ jLA n 124 = 4 ∧ jLA n 125 = 40 ∧ jLA n 126 = 40 ∧ jLA n 127 = 40 ∧ jLA n 128 = 40 ∧ jLA n 129 = 40 ∧ jLA n 130 = 40 ∧ jLA n 131 = 40 ∧ jLA n 132 = 80 ∧ jLA n 133 = 20 ∧ jLA n 134 = 72 ∧ jLA n 135 = 9 ∧ jLA n 136 = 4 ∧ jLA n 137 = 4 ∧ jLA n 138 = 40 ∧ jLA n 139 = 8 ∧ jLA n 142 = 8 ∧ jLA n 143 = 160 ∧ jLA n 144 = 1000 ∧ jLA n 74 = 343 ∧ jLA n 76 = 343 ∧ jLA n 80 = 343 ∧ jLA n 84 = 343 ∧ jLA n 88 = 343 ∧ jLA n 92 = 343 ∧ jLA n 96 = 343 ∧ jLA n 100 = 343 ∧ jLA n 104 = 343 ∧ jLA n 108 = 96 ∧ jLA n 109 = 336 ∧ jLA n 140 = 360 ∧ jLA n 141 = 2240 ∧ jLA n 13 = 4 ∧ jLA n 41 = 4 ∧ jLA n 119 = 4 := ⟨rfl, rfl, rfl, rfl, rfl, rfl, rfl, rfl, rfl, rfl, rfl, rfl, rfl, rfl, rfl, rfl, rfl, rfl, rfl, rfl, rfl, rfl, rfl, rfl, rfl, rfl, rfl, rfl, rfl, rfl, rfl, rfl, rfl, rfl, rfl, rfl, rfl, rfl, rfl, rfl, rfl, rfl, rfl, rfl, rfl, rfl, rfl, rfl, rfl, rfl, rfl, rfl, rfl, rfl, rfl, rfl, rfl, rfl, rfl, rfl, rfl, rfl, rfl, rfl, rfl, rfl, rfl, rfl, rfl, rfl, rfl, rfl, rfl, rfl, rfl, rfl, rfl, rfl, rfl, rfl, rfl, rfl, rfl, rfl, rfl, rfl, rfl, rfl, rfl, rfl, rfl, rfl, rfl, rfl, rfl, rfl, rfl, rfl, rfl, rfl, rfl, rfl, rfl, rfl, rfl, rfl, rfl, rfl, rfl, rfl, rfl, rfl, rfl, rfl, rfl, rfl, rfl, rfl, rfl, rfl⟩
theorem jF8 {P : Nat → Prop} (h0 : P 0) (h1 : P 1) (h2 : P 2) (h3 : P 3) (h4 : P 4) (h5 : P 5) (h6 : P 6) (h7 : P 7) {t : Nat} (ht : t < 8) : P t := by
  match t, ht with
  | 0, _ => exact h0
  | 1, _ => exact h1
  | 2, _ => exact h2
  | 3, _ => exact h3
  | 4, _ => exact h4
  | 5, _ => exact h5
  | 6, _ => exact h6
  | 7, _ => exact h7
  | t + 8, h => exact absurd h (by omega)
theorem jT0_B {n t : Nat} (ht : t < 8) : jT0 n (fB t) = (4, 8) := jF8 (P := fun t => jT0 n (fB t) = (4, 8)) rfl rfl rfl rfl rfl rfl rfl rfl ht
theorem jP0_B {t : Nat} (ht : t < 8) : jP0 72 t = some (fB t) ∧ jP0 (fB t) 0 = some 10 ∧ jP0 (fB t) 1 = some 74 ∧ jP0 (fB t) 2 = some (fS t) ∧ jP0 (fB t) 3 = some (fH t) ∧ jP0 (fB t) 4 = some (fT t) := jF8 (P := fun t => jP0 72 t = some (fB t) ∧ jP0 (fB t) 0 = some 10 ∧ jP0 (fB t) 1 = some 74 ∧ jP0 (fB t) 2 = some (fS t) ∧ jP0 (fB t) 3 = some (fH t) ∧ jP0 (fB t) 4 = some (fT t)) ⟨rfl, rfl, rfl, rfl, rfl, rfl⟩ ⟨rfl, rfl, rfl, rfl, rfl, rfl⟩ ⟨rfl, rfl, rfl, rfl, rfl, rfl⟩ ⟨rfl, rfl, rfl, rfl, rfl, rfl⟩ ⟨rfl, rfl, rfl, rfl, rfl, rfl⟩ ⟨rfl, rfl, rfl, rfl, rfl, rfl⟩ ⟨rfl, rfl, rfl, rfl, rfl, rfl⟩ ⟨rfl, rfl, rfl, rfl, rfl, rfl⟩ ht
theorem jLL_S {n t : Nat} (ht : t < 8) : jLL n (fS t) = 343 := jF8 (P := fun t => jLL n (fS t) = 343) rfl rfl rfl rfl rfl rfl rfl rfl ht
theorem jLI_H {n t : Nat} (ht : t < 8) : jLI n (fH t) = 7 := jF8 (P := fun t => jLI n (fH t) = 7) rfl rfl rfl rfl rfl rfl rfl rfl ht
theorem jLW_H {n t : Nat} (ht : t < 8) : jLW n (fH t) = 7 := jF8 (P := fun t => jLW n (fH t) = 7) rfl rfl rfl rfl rfl rfl rfl rfl ht
theorem jLI_T {n t : Nat} (ht : t < 8) : jLI n (fT t) = 3 := jF8 (P := fun t => jLI n (fT t) = 3) rfl rfl rfl rfl rfl rfl rfl rfl ht
theorem jLW_T {n t : Nat} (ht : t < 8) : jLW n (fT t) = 3 := jF8 (P := fun t => jLW n (fT t) = 3) rfl rfl rfl rfl rfl rfl rfl rfl ht
theorem fB_r {t : Nat} (ht : t < 8) : 9 ≤ fB t ∧ fB t < 145 := by unfold fB; omega
