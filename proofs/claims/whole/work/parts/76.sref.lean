/-! ===== the reference's arrays by number (by program) ===== -/
section SR
variable {S : sT} {i : Nat} {v : Int32} {w : Int64}
theorem ga4 (h : i < 11) : s_a S 4 (nI i) = some (S.1 4 i) := s_a_t (show i < mL.getD 4 0 from h) (by omega)
theorem gs4 (h : i < 11) : s_s S 4 (nI i) v = some (s_u S 4 i v) := s_s_t (show i < mL.getD 4 0 from h) (by omega)
theorem ga5 (h : i < 3) : s_a S 5 (nI i) = some (S.1 5 i) := s_a_t (show i < mL.getD 5 0 from h) (by omega)
theorem gs5 (h : i < 3) : s_s S 5 (nI i) v = some (s_u S 5 i v) := s_s_t (show i < mL.getD 5 0 from h) (by omega)
theorem ga6 (h : i < 144000) : s_a S 6 (nI i) = some (S.1 6 i) := s_a_t (show i < mL.getD 6 0 from h) (by omega)
theorem gs6 (h : i < 144000) : s_sb S 6 (nI i) v = some (s_u S 6 i v.toInt8.toInt32) := s_sb_t (show i < mL.getD 6 0 from h) (by omega)
theorem ga7 (h : i < 1800) : s_a S 7 (nI i) = some (S.1 7 i) := s_a_t (show i < mL.getD 7 0 from h) (by omega)
theorem gs7 (h : i < 1800) : s_s S 7 (nI i) v = some (s_u S 7 i v) := s_s_t (show i < mL.getD 7 0 from h) (by omega)
theorem ga8 (h : i < 1800) : s_a S 8 (nI i) = some (S.1 8 i) := s_a_t (show i < mL.getD 8 0 from h) (by omega)
theorem gs8 (h : i < 1800) : s_s S 8 (nI i) v = some (s_u S 8 i v) := s_s_t (show i < mL.getD 8 0 from h) (by omega)
theorem ga10 (h : i < 32) : s_a S 10 (nI i) = some (S.1 10 i) := s_a_t (show i < mL.getD 10 0 from h) (by omega)
theorem gs10 (h : i < 32) : s_s S 10 (nI i) v = some (s_u S 10 i v) := s_s_t (show i < mL.getD 10 0 from h) (by omega)
theorem ga11 (h : i < 16) : s_a S 11 (nI i) = some (S.1 11 i) := s_a_t (show i < mL.getD 11 0 from h) (by omega)
theorem gs11 (h : i < 16) : s_s S 11 (nI i) v = some (s_u S 11 i v) := s_s_t (show i < mL.getD 11 0 from h) (by omega)
theorem ga12 (h : i < 16) : s_a S 12 (nI i) = some (S.1 12 i) := s_a_t (show i < mL.getD 12 0 from h) (by omega)
theorem gs12_0 (h : i < 16) : s_sz S 12 (nI i) 0 = some (s_u S 12 i 0) := s_sz_t (by decide) (show i < mL.getD 12 0 from h) (by omega)
theorem gs12_1 (h : i < 16) : s_sz S 12 (nI i) 1 = some (s_u S 12 i 1) := s_sz_t (by decide) (show i < mL.getD 12 0 from h) (by omega)
theorem gs12 (hv : v = 0 ∨ v = 1) (h : i < 16) : s_sz S 12 (nI i) v = some (s_u S 12 i v) := s_sz_t hv (show i < mL.getD 12 0 from h) (by omega)
theorem ga14 (h : i < 48) : s_a S 14 (nI i) = some (S.1 14 i) := s_a_t (show i < mL.getD 14 0 from h) (by omega)
theorem gs14 (h : i < 48) : s_s S 14 (nI i) v = some (s_u S 14 i v) := s_s_t (show i < mL.getD 14 0 from h) (by omega)
theorem ga15 (h : i < 48) : s_a S 15 (nI i) = some (S.1 15 i) := s_a_t (show i < mL.getD 15 0 from h) (by omega)
theorem gs15 (h : i < 48) : s_s S 15 (nI i) v = some (s_u S 15 i v) := s_s_t (show i < mL.getD 15 0 from h) (by omega)
theorem ga16 (h : i < 192) : s_a S 16 (nI i) = some (S.1 16 i) := s_a_t (show i < mL.getD 16 0 from h) (by omega)
theorem gs16 (h : i < 192) : s_s S 16 (nI i) v = some (s_u S 16 i v) := s_s_t (show i < mL.getD 16 0 from h) (by omega)
theorem ga17 (h : i < 48) : s_a S 17 (nI i) = some (S.1 17 i) := s_a_t (show i < mL.getD 17 0 from h) (by omega)
theorem gs17 (h : i < 48) : s_s S 17 (nI i) v = some (s_u S 17 i v) := s_s_t (show i < mL.getD 17 0 from h) (by omega)
theorem ga18 (h : i < 1536) : s_a S 18 (nI i) = some (S.1 18 i) := s_a_t (show i < mL.getD 18 0 from h) (by omega)
theorem gs18 (h : i < 1536) : s_s S 18 (nI i) v = some (s_u S 18 i v) := s_s_t (show i < mL.getD 18 0 from h) (by omega)
theorem ga19 (h : i < 48) : s_a S 19 (nI i) = some (S.1 19 i) := s_a_t (show i < mL.getD 19 0 from h) (by omega)
theorem gs19 (h : i < 48) : s_s S 19 (nI i) v = some (s_u S 19 i v) := s_s_t (show i < mL.getD 19 0 from h) (by omega)
theorem ga20 (h : i < 48) : s_a S 20 (nI i) = some (S.1 20 i) := s_a_t (show i < mL.getD 20 0 from h) (by omega)
theorem gs20 (h : i < 48) : s_s S 20 (nI i) v = some (s_u S 20 i v) := s_s_t (show i < mL.getD 20 0 from h) (by omega)
theorem ga21 (h : i < 48) : s_a S 21 (nI i) = some (S.1 21 i) := s_a_t (show i < mL.getD 21 0 from h) (by omega)
theorem gs21 (h : i < 48) : s_s S 21 (nI i) v = some (s_u S 21 i v) := s_s_t (show i < mL.getD 21 0 from h) (by omega)
theorem ga22 (h : i < 48) : s_a S 22 (nI i) = some (S.1 22 i) := s_a_t (show i < mL.getD 22 0 from h) (by omega)
theorem gs22_0 (h : i < 48) : s_sz S 22 (nI i) 0 = some (s_u S 22 i 0) := s_sz_t (by decide) (show i < mL.getD 22 0 from h) (by omega)
theorem gs22_1 (h : i < 48) : s_sz S 22 (nI i) 1 = some (s_u S 22 i 1) := s_sz_t (by decide) (show i < mL.getD 22 0 from h) (by omega)
theorem gs22 (hv : v = 0 ∨ v = 1) (h : i < 48) : s_sz S 22 (nI i) v = some (s_u S 22 i v) := s_sz_t hv (show i < mL.getD 22 0 from h) (by omega)
theorem ga23 (h : i < 48) : s_a S 23 (nI i) = some (S.1 23 i) := s_a_t (show i < mL.getD 23 0 from h) (by omega)
theorem gs23 (h : i < 48) : s_s S 23 (nI i) v = some (s_u S 23 i v) := s_s_t (show i < mL.getD 23 0 from h) (by omega)
theorem ga24 (h : i < 48) : s_a S 24 (nI i) = some (S.1 24 i) := s_a_t (show i < mL.getD 24 0 from h) (by omega)
theorem gs24 (h : i < 48) : s_s S 24 (nI i) v = some (s_u S 24 i v) := s_s_t (show i < mL.getD 24 0 from h) (by omega)
theorem ga25 (h : i < 48) : s_a S 25 (nI i) = some (S.1 25 i) := s_a_t (show i < mL.getD 25 0 from h) (by omega)
theorem gs25 (h : i < 48) : s_s S 25 (nI i) v = some (s_u S 25 i v) := s_s_t (show i < mL.getD 25 0 from h) (by omega)
theorem ga26 (h : i < 5) : s_a S 26 (nI i) = some (S.1 26 i) := s_a_t (show i < mL.getD 26 0 from h) (by omega)
theorem gs26 (h : i < 5) : s_s S 26 (nI i) v = some (s_u S 26 i v) := s_s_t (show i < mL.getD 26 0 from h) (by omega)
theorem ga27 (h : i < 25) : s_a S 27 (nI i) = some (S.1 27 i) := s_a_t (show i < mL.getD 27 0 from h) (by omega)
theorem gs27_0 (h : i < 25) : s_sz S 27 (nI i) 0 = some (s_u S 27 i 0) := s_sz_t (by decide) (show i < mL.getD 27 0 from h) (by omega)
theorem gs27_1 (h : i < 25) : s_sz S 27 (nI i) 1 = some (s_u S 27 i 1) := s_sz_t (by decide) (show i < mL.getD 27 0 from h) (by omega)
theorem gs27 (hv : v = 0 ∨ v = 1) (h : i < 25) : s_sz S 27 (nI i) v = some (s_u S 27 i v) := s_sz_t hv (show i < mL.getD 27 0 from h) (by omega)
theorem ga28 (h : i < 25) : s_a S 28 (nI i) = some (S.1 28 i) := s_a_t (show i < mL.getD 28 0 from h) (by omega)
theorem gs28 (h : i < 25) : s_s S 28 (nI i) v = some (s_u S 28 i v) := s_s_t (show i < mL.getD 28 0 from h) (by omega)
theorem ga29 (h : i < 1600) : s_a S 29 (nI i) = some (S.1 29 i) := s_a_t (show i < mL.getD 29 0 from h) (by omega)
theorem gs29 (h : i < 1600) : s_s S 29 (nI i) v = some (s_u S 29 i v) := s_s_t (show i < mL.getD 29 0 from h) (by omega)
theorem ga30 (h : i < 25) : s_a S 30 (nI i) = some (S.1 30 i) := s_a_t (show i < mL.getD 30 0 from h) (by omega)
theorem gs30 (h : i < 25) : s_s S 30 (nI i) v = some (s_u S 30 i v) := s_s_t (show i < mL.getD 30 0 from h) (by omega)
theorem ga31 (h : i < 64) : s_a S 31 (nI i) = some (S.1 31 i) := s_a_t (show i < mL.getD 31 0 from h) (by omega)
theorem gs31 (h : i < 64) : s_s S 31 (nI i) v = some (s_u S 31 i v) := s_s_t (show i < mL.getD 31 0 from h) (by omega)
theorem ga32 (h : i < 25) : s_a S 32 (nI i) = some (S.1 32 i) := s_a_t (show i < mL.getD 32 0 from h) (by omega)
theorem gs32 (h : i < 25) : s_s S 32 (nI i) v = some (s_u S 32 i v) := s_s_t (show i < mL.getD 32 0 from h) (by omega)
theorem ga33 (h : i < 8) : s_a S 33 (nI i) = some (S.1 33 i) := s_a_t (show i < mL.getD 33 0 from h) (by omega)
theorem gs33_0 (h : i < 8) : s_sz S 33 (nI i) 0 = some (s_u S 33 i 0) := s_sz_t (by decide) (show i < mL.getD 33 0 from h) (by omega)
theorem gs33_1 (h : i < 8) : s_sz S 33 (nI i) 1 = some (s_u S 33 i 1) := s_sz_t (by decide) (show i < mL.getD 33 0 from h) (by omega)
theorem gs33 (hv : v = 0 ∨ v = 1) (h : i < 8) : s_sz S 33 (nI i) v = some (s_u S 33 i v) := s_sz_t hv (show i < mL.getD 33 0 from h) (by omega)
theorem ga34 (h : i < 8) : s_a S 34 (nI i) = some (S.1 34 i) := s_a_t (show i < mL.getD 34 0 from h) (by omega)
theorem gs34_0 (h : i < 8) : s_sz S 34 (nI i) 0 = some (s_u S 34 i 0) := s_sz_t (by decide) (show i < mL.getD 34 0 from h) (by omega)
theorem gs34_1 (h : i < 8) : s_sz S 34 (nI i) 1 = some (s_u S 34 i 1) := s_sz_t (by decide) (show i < mL.getD 34 0 from h) (by omega)
theorem gs34 (hv : v = 0 ∨ v = 1) (h : i < 8) : s_sz S 34 (nI i) v = some (s_u S 34 i v) := s_sz_t hv (show i < mL.getD 34 0 from h) (by omega)
theorem ga35 (h : i < 8) : s_a S 35 (nI i) = some (S.1 35 i) := s_a_t (show i < mL.getD 35 0 from h) (by omega)
theorem gs35 (h : i < 8) : s_s S 35 (nI i) v = some (s_u S 35 i v) := s_s_t (show i < mL.getD 35 0 from h) (by omega)
theorem ga36 (h : i < 8) : s_a S 36 (nI i) = some (S.1 36 i) := s_a_t (show i < mL.getD 36 0 from h) (by omega)
theorem gs36 (h : i < 8) : s_s S 36 (nI i) v = some (s_u S 36 i v) := s_s_t (show i < mL.getD 36 0 from h) (by omega)
theorem ga37 (h : i < 8) : s_a S 37 (nI i) = some (S.1 37 i) := s_a_t (show i < mL.getD 37 0 from h) (by omega)
theorem gs37 (h : i < 8) : s_s S 37 (nI i) v = some (s_u S 37 i v) := s_s_t (show i < mL.getD 37 0 from h) (by omega)
theorem ga39 (h : i < 64) : s_a S 39 (nI i) = some (S.1 39 i) := s_a_t (show i < mL.getD 39 0 from h) (by omega)
theorem gs39 (h : i < 64) : s_s S 39 (nI i) v = some (s_u S 39 i v) := s_s_t (show i < mL.getD 39 0 from h) (by omega)
theorem ga40 (h : i < 64) : s_a S 40 (nI i) = some (S.1 40 i) := s_a_t (show i < mL.getD 40 0 from h) (by omega)
theorem gs40 (h : i < 64) : s_s S 40 (nI i) v = some (s_u S 40 i v) := s_s_t (show i < mL.getD 40 0 from h) (by omega)
theorem ga41 (h : i < 8) : s_a S 41 (nI i) = some (S.1 41 i) := s_a_t (show i < mL.getD 41 0 from h) (by omega)
theorem gs41 (h : i < 8) : s_s S 41 (nI i) v = some (s_u S 41 i v) := s_s_t (show i < mL.getD 41 0 from h) (by omega)
theorem ga42 (h : i < 256) : s_al S 42 (nI i) = some (S.2 42 i) := s_al_t (show i < mL.getD 42 0 from h) (by omega)
theorem gs42 (h : i < 256) : s_sl S 42 (nI i) w = some (s_ul S 42 i w) := s_sl_t (show i < mL.getD 42 0 from h) (by omega)
theorem ga43 (h : i < 8) : s_a S 43 (nI i) = some (S.1 43 i) := s_a_t (show i < mL.getD 43 0 from h) (by omega)
theorem gs43 (h : i < 8) : s_s S 43 (nI i) v = some (s_u S 43 i v) := s_s_t (show i < mL.getD 43 0 from h) (by omega)
theorem ga44 (h : i < 384) : s_a S 44 (nI i) = some (S.1 44 i) := s_a_t (show i < mL.getD 44 0 from h) (by omega)
theorem gs44 (h : i < 384) : s_s S 44 (nI i) v = some (s_u S 44 i v) := s_s_t (show i < mL.getD 44 0 from h) (by omega)
theorem ga45 (h : i < 192) : s_al S 45 (nI i) = some (S.2 45 i) := s_al_t (show i < mL.getD 45 0 from h) (by omega)
theorem gs45 (h : i < 192) : s_sl S 45 (nI i) w = some (s_ul S 45 i w) := s_sl_t (show i < mL.getD 45 0 from h) (by omega)
theorem ga46 (h : i < 8) : s_a S 46 (nI i) = some (S.1 46 i) := s_a_t (show i < mL.getD 46 0 from h) (by omega)
theorem gs46 (h : i < 8) : s_s S 46 (nI i) v = some (s_u S 46 i v) := s_s_t (show i < mL.getD 46 0 from h) (by omega)
theorem ga48 (h : i < 300) : s_a S 48 (nI i) = some (S.1 48 i) := s_a_t (show i < mL.getD 48 0 from h) (by omega)
theorem gs48 (h : i < 300) : s_s S 48 (nI i) v = some (s_u S 48 i v) := s_s_t (show i < mL.getD 48 0 from h) (by omega)
theorem ga49 (h : i < 300) : s_a S 49 (nI i) = some (S.1 49 i) := s_a_t (show i < mL.getD 49 0 from h) (by omega)
theorem gs49 (h : i < 300) : s_s S 49 (nI i) v = some (s_u S 49 i v) := s_s_t (show i < mL.getD 49 0 from h) (by omega)
theorem ga50 (h : i < 300) : s_a S 50 (nI i) = some (S.1 50 i) := s_a_t (show i < mL.getD 50 0 from h) (by omega)
theorem gs50_0 (h : i < 300) : s_sz S 50 (nI i) 0 = some (s_u S 50 i 0) := s_sz_t (by decide) (show i < mL.getD 50 0 from h) (by omega)
theorem gs50_1 (h : i < 300) : s_sz S 50 (nI i) 1 = some (s_u S 50 i 1) := s_sz_t (by decide) (show i < mL.getD 50 0 from h) (by omega)
theorem gs50 (hv : v = 0 ∨ v = 1) (h : i < 300) : s_sz S 50 (nI i) v = some (s_u S 50 i v) := s_sz_t hv (show i < mL.getD 50 0 from h) (by omega)
theorem ga51 (h : i < 300) : s_a S 51 (nI i) = some (S.1 51 i) := s_a_t (show i < mL.getD 51 0 from h) (by omega)
theorem gs51 (h : i < 300) : s_s S 51 (nI i) v = some (s_u S 51 i v) := s_s_t (show i < mL.getD 51 0 from h) (by omega)
theorem ga52 (h : i < 300) : s_a S 52 (nI i) = some (S.1 52 i) := s_a_t (show i < mL.getD 52 0 from h) (by omega)
theorem gs52 (h : i < 300) : s_s S 52 (nI i) v = some (s_u S 52 i v) := s_s_t (show i < mL.getD 52 0 from h) (by omega)
theorem ga53 (h : i < 300) : s_a S 53 (nI i) = some (S.1 53 i) := s_a_t (show i < mL.getD 53 0 from h) (by omega)
theorem gs53 (h : i < 300) : s_s S 53 (nI i) v = some (s_u S 53 i v) := s_s_t (show i < mL.getD 53 0 from h) (by omega)
theorem ga54 (h : i < 1200) : s_al S 54 (nI i) = some (S.2 54 i) := s_al_t (show i < mL.getD 54 0 from h) (by omega)
theorem gs54 (h : i < 1200) : s_sl S 54 (nI i) w = some (s_ul S 54 i w) := s_sl_t (show i < mL.getD 54 0 from h) (by omega)
theorem ga55 (h : i < 300) : s_a S 55 (nI i) = some (S.1 55 i) := s_a_t (show i < mL.getD 55 0 from h) (by omega)
theorem gs55 (h : i < 300) : s_s S 55 (nI i) v = some (s_u S 55 i v) := s_s_t (show i < mL.getD 55 0 from h) (by omega)
theorem ga56 (h : i < 300) : s_a S 56 (nI i) = some (S.1 56 i) := s_a_t (show i < mL.getD 56 0 from h) (by omega)
theorem gs56 (h : i < 300) : s_s S 56 (nI i) v = some (s_u S 56 i v) := s_s_t (show i < mL.getD 56 0 from h) (by omega)
theorem ga57 (h : i < 300) : s_a S 57 (nI i) = some (S.1 57 i) := s_a_t (show i < mL.getD 57 0 from h) (by omega)
theorem gs57 (h : i < 300) : s_s S 57 (nI i) v = some (s_u S 57 i v) := s_s_t (show i < mL.getD 57 0 from h) (by omega)
theorem ga58 (h : i < 300) : s_a S 58 (nI i) = some (S.1 58 i) := s_a_t (show i < mL.getD 58 0 from h) (by omega)
theorem gs58 (h : i < 300) : s_s S 58 (nI i) v = some (s_u S 58 i v) := s_s_t (show i < mL.getD 58 0 from h) (by omega)
theorem ga59 (h : i < 300) : s_a S 59 (nI i) = some (S.1 59 i) := s_a_t (show i < mL.getD 59 0 from h) (by omega)
theorem gs59 (h : i < 300) : s_s S 59 (nI i) v = some (s_u S 59 i v) := s_s_t (show i < mL.getD 59 0 from h) (by omega)
theorem ga60 (h : i < 300) : s_a S 60 (nI i) = some (S.1 60 i) := s_a_t (show i < mL.getD 60 0 from h) (by omega)
theorem gs60 (h : i < 300) : s_s S 60 (nI i) v = some (s_u S 60 i v) := s_s_t (show i < mL.getD 60 0 from h) (by omega)
theorem ixr2 {x : Nat} : nI x * 2 = nI (x * 2) := pk_mul x 2
theorem ixl2 {x : Nat} : 2 * nI x = nI (2 * x) := pk_mul 2 x
theorem ixr3 {x : Nat} : nI x * 3 = nI (x * 3) := pk_mul x 3
theorem ixl3 {x : Nat} : 3 * nI x = nI (3 * x) := pk_mul 3 x
theorem ixr4 {x : Nat} : nI x * 4 = nI (x * 4) := pk_mul x 4
theorem ixl4 {x : Nat} : 4 * nI x = nI (4 * x) := pk_mul 4 x
theorem ixr5 {x : Nat} : nI x * 5 = nI (x * 5) := pk_mul x 5
theorem ixl5 {x : Nat} : 5 * nI x = nI (5 * x) := pk_mul 5 x
theorem ixr8 {x : Nat} : nI x * 8 = nI (x * 8) := pk_mul x 8
theorem ixl8 {x : Nat} : 8 * nI x = nI (8 * x) := pk_mul 8 x
theorem ixr16 {x : Nat} : nI x * 16 = nI (x * 16) := pk_mul x 16
theorem ixl16 {x : Nat} : 16 * nI x = nI (16 * x) := pk_mul 16 x
theorem ixr24 {x : Nat} : nI x * 24 = nI (x * 24) := pk_mul x 24
theorem ixl24 {x : Nat} : 24 * nI x = nI (24 * x) := pk_mul 24 x
theorem ixr32 {x : Nat} : nI x * 32 = nI (x * 32) := pk_mul x 32
theorem ixl32 {x : Nat} : 32 * nI x = nI (32 * x) := pk_mul 32 x
theorem ixr48 {x : Nat} : nI x * 48 = nI (x * 48) := pk_mul x 48
theorem ixl48 {x : Nat} : 48 * nI x = nI (48 * x) := pk_mul 48 x
theorem ixr64 {x : Nat} : nI x * 64 = nI (x * 64) := pk_mul x 64
theorem ixl64 {x : Nat} : 64 * nI x = nI (64 * x) := pk_mul 64 x
theorem ixr80 {x : Nat} : nI x * 80 = nI (x * 80) := pk_mul x 80
theorem ixl80 {x : Nat} : 80 * nI x = nI (80 * x) := pk_mul 80 x
theorem ixa2 {x : Nat} : nI x + 2 = nI (x + 2) := nI_add x 2
theorem ixa3 {x : Nat} : nI x + 3 = nI (x + 3) := nI_add x 3
theorem ixa4 {x : Nat} : nI x + 4 = nI (x + 4) := nI_add x 4
theorem ixa5 {x : Nat} : nI x + 5 = nI (x + 5) := nI_add x 5
theorem ixa6 {x : Nat} : nI x + 6 = nI (x + 6) := nI_add x 6
theorem ixa7 {x : Nat} : nI x + 7 = nI (x + 7) := nI_add x 7
theorem ixa8 {x : Nat} : nI x + 8 = nI (x + 8) := nI_add x 8
theorem ixa13 {x : Nat} : nI x + 13 = nI (x + 13) := nI_add x 13
theorem ixa40 {x : Nat} : nI x + 40 = nI (x + 40) := nI_add x 40
theorem ixb4 {x : Nat} : 4 + nI x = nI (4 + x) := nI_add 4 x
theorem ixb6 {x : Nat} : 6 + nI x = nI (6 + x) := nI_add 6 x
theorem ixb7 {x : Nat} : 7 + nI x = nI (7 + x) := nI_add 7 x
theorem ixb40 {x : Nat} : 40 + nI x = nI (40 + x) := nI_add 40 x
theorem ixb13 {x : Nat} : 13 + nI x = nI (13 + x) := nI_add 13 x
theorem ixb19 {x : Nat} : 19 + nI x = nI (19 + x) := nI_add 19 x
theorem ixb14 {x : Nat} : 14 + nI x = nI (14 + x) := nI_add 14 x
theorem y_su {k i j b : Nat} : (s_u S k i v).1 j b = if j = k ∧ b = i then v else S.1 j b := rfl
theorem y_sul {k i : Nat} : (s_u S k i v).2 = S.2 := rfl
theorem y_tu {k i : Nat} : (s_ul S k i w).1 = S.1 := rfl
theorem y_tul {k i j b : Nat} : (s_ul S k i w).2 j b = if j = k ∧ b = i then w else S.2 j b := rfl
theorem su_eq {k i : Nat} : (s_u S k i v).1 k = u1 (S.1 k) i v := funext fun x => by
  show u2 S.1 k i v k x = u1 (S.1 k) i v x
  unfold u2 u1
  by_cases q : x = i
  · rw [if_pos ⟨rfl, q⟩, if_pos q]
  · rw [if_neg (fun z => q z.2), if_neg q]
theorem su_ne {k i j : Nat} (h : j ≠ k) : (s_u S k i v).1 j = S.1 j := funext fun x => u2_nk h
end SR
