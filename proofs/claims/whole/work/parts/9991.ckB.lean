set_option maxRecDepth 100000 in
theorem ck120 : chkT 120 = true := by decide +kernel
set_option maxRecDepth 100000 in
theorem ck121 : chkT 121 = true := by decide +kernel
set_option maxRecDepth 100000 in
theorem ck122 : chkT 122 = true := by decide +kernel
set_option maxRecDepth 100000 in
theorem ck123 : chkT 123 = true := by decide +kernel
set_option maxRecDepth 100000 in
theorem ck124 : chkT 124 = true := by decide +kernel
set_option maxRecDepth 100000 in
theorem ck125 : chkT 125 = true := by decide +kernel
set_option maxRecDepth 100000 in
theorem ck126 : chkT 126 = true := by decide +kernel
set_option maxRecDepth 100000 in
theorem ck127 : chkT 127 = true := by decide +kernel
set_option maxRecDepth 100000 in
theorem ck128 : chkT 128 = true := by decide +kernel
set_option maxRecDepth 100000 in
theorem ck129 : chkT 129 = true := by decide +kernel
set_option maxRecDepth 100000 in
theorem ck130 : chkT 130 = true := by decide +kernel
set_option maxRecDepth 100000 in
theorem ck131 : chkT 131 = true := by decide +kernel
set_option maxRecDepth 100000 in
theorem ck132 : chkT 132 = true := by decide +kernel
set_option maxRecDepth 100000 in
theorem ck133 : chkT 133 = true := by decide +kernel
set_option maxRecDepth 100000 in
theorem ck134 : chkT 134 = true := by decide +kernel
set_option maxRecDepth 100000 in
theorem ck135 : chkT 135 = true := by decide +kernel
set_option maxRecDepth 100000 in
theorem ck136 : chkT 136 = true := by decide +kernel
set_option maxRecDepth 100000 in
theorem ck137 : chkT 137 = true := by decide +kernel
set_option maxRecDepth 100000 in
theorem ck138 : chkT 138 = true := by decide +kernel
set_option maxRecDepth 100000 in
theorem ck139 : chkT 139 = true := by decide +kernel
set_option maxRecDepth 100000 in
theorem ck140 : chkT 140 = true := by decide +kernel
set_option maxRecDepth 100000 in
theorem ck141 : chkT 141 = true := by decide +kernel
set_option maxRecDepth 100000 in
theorem ck142 : chkT 142 = true := by decide +kernel
set_option maxRecDepth 100000 in
theorem ck143 : chkT 143 = true := by decide +kernel
set_option maxRecDepth 100000 in
theorem ck144 : chkT 144 = true := by decide +kernel
set_option maxRecDepth 100000 in
theorem ck145 : chkT 145 = true := by decide +kernel
set_option maxRecDepth 100000 in
theorem ck146 : chkT 146 = true := by decide +kernel
set_option maxRecDepth 100000 in
theorem ck147 : chkT 147 = true := by decide +kernel
set_option maxRecDepth 100000 in
theorem ck148 : chkT 148 = true := by decide +kernel
set_option maxRecDepth 100000 in
theorem ck149 : chkT 149 = true := by decide +kernel
set_option maxRecDepth 100000 in
theorem ck150 : chkT 150 = true := by decide +kernel
set_option maxRecDepth 100000 in
theorem ck151 : chkT 151 = true := by decide +kernel
set_option maxRecDepth 100000 in
theorem ck152 : chkT 152 = true := by decide +kernel
set_option maxRecDepth 100000 in
theorem ck153 : chkT 153 = true := by decide +kernel
set_option maxRecDepth 100000 in
theorem ck154 : chkT 154 = true := by decide +kernel
set_option maxRecDepth 100000 in
theorem ck155 : chkT 155 = true := by decide +kernel
set_option maxRecDepth 100000 in
theorem ck156 : chkT 156 = true := by decide +kernel
set_option maxRecDepth 100000 in
theorem ck157 : chkT 157 = true := by decide +kernel
set_option maxRecDepth 100000 in
theorem ck158 : chkT 158 = true := by decide +kernel
set_option maxRecDepth 100000 in
theorem ck159 : chkT 159 = true := by decide +kernel
set_option maxRecDepth 100000 in
theorem ck160 : chkT 160 = true := by decide +kernel
set_option maxRecDepth 100000 in
theorem ck161 : chkT 161 = true := by decide +kernel
set_option maxRecDepth 100000 in
theorem ck162 : chkT 162 = true := by decide +kernel
set_option maxRecDepth 100000 in
theorem ck163 : chkT 163 = true := by decide +kernel
set_option maxRecDepth 100000 in
theorem ck164 : chkT 164 = true := by decide +kernel
set_option maxRecDepth 100000 in
theorem ck165 : chkT 165 = true := by decide +kernel
set_option maxRecDepth 100000 in
theorem ck166 : chkT 166 = true := by decide +kernel
set_option maxRecDepth 100000 in
theorem ck167 : chkT 167 = true := by decide +kernel
set_option maxRecDepth 100000 in
theorem ck168 : chkT 168 = true := by decide +kernel
set_option maxRecDepth 100000 in
theorem ck169 : chkT 169 = true := by decide +kernel
set_option maxRecDepth 100000 in
theorem ck170 : chkT 170 = true := by decide +kernel
set_option maxRecDepth 100000 in
theorem ck171 : chkT 171 = true := by decide +kernel
set_option maxRecDepth 100000 in
theorem ck172 : chkT 172 = true := by decide +kernel
set_option maxRecDepth 100000 in
theorem ck173 : chkT 173 = true := by decide +kernel
set_option maxRecDepth 100000 in
theorem ck174 : chkT 174 = true := by decide +kernel
set_option maxRecDepth 100000 in
theorem ck175 : chkT 175 = true := by decide +kernel
set_option maxRecDepth 100000 in
theorem ck176 : chkT 176 = true := by decide +kernel
set_option maxRecDepth 100000 in
theorem ck177 : chkT 177 = true := by decide +kernel
set_option maxRecDepth 100000 in
theorem ck178 : chkT 178 = true := by decide +kernel
set_option maxRecDepth 100000 in
theorem ck179 : chkT 179 = true := by decide +kernel
set_option maxRecDepth 100000 in
theorem ck180 : chkT 180 = true := by decide +kernel
set_option maxRecDepth 100000 in
theorem ck181 : chkT 181 = true := by decide +kernel
set_option maxRecDepth 100000 in
theorem ck182 : chkT 182 = true := by decide +kernel
set_option maxRecDepth 100000 in
theorem ck183 : chkT 183 = true := by decide +kernel
set_option maxRecDepth 100000 in
theorem ck184 : chkT 184 = true := by decide +kernel
set_option maxRecDepth 100000 in
theorem ck185 : chkT 185 = true := by decide +kernel
set_option maxRecDepth 100000 in
theorem ck186 : chkT 186 = true := by decide +kernel
set_option maxRecDepth 100000 in
theorem ck187 : chkT 187 = true := by decide +kernel
set_option maxRecDepth 100000 in
theorem ck188 : chkT 188 = true := by decide +kernel
set_option maxRecDepth 100000 in
theorem ck189 : chkT 189 = true := by decide +kernel
set_option maxRecDepth 100000 in
theorem ck190 : chkT 190 = true := by decide +kernel
set_option maxRecDepth 100000 in
theorem ck191 : chkT 191 = true := by decide +kernel
set_option maxRecDepth 100000 in
theorem ck192 : chkT 192 = true := by decide +kernel
set_option maxRecDepth 100000 in
theorem ck193 : chkT 193 = true := by decide +kernel
set_option maxRecDepth 100000 in
theorem ck194 : chkT 194 = true := by decide +kernel
set_option maxRecDepth 100000 in
theorem ck195 : chkT 195 = true := by decide +kernel
set_option maxRecDepth 100000 in
theorem ck196 : chkT 196 = true := by decide +kernel
set_option maxRecDepth 100000 in
theorem ck197 : chkT 197 = true := by decide +kernel
set_option maxRecDepth 100000 in
theorem ck198 : chkT 198 = true := by decide +kernel
set_option maxRecDepth 100000 in
theorem ck199 : chkT 199 = true := by decide +kernel
set_option maxRecDepth 100000 in
theorem ck200 : chkT 200 = true := by decide +kernel
set_option maxRecDepth 100000 in
theorem ck201 : chkT 201 = true := by decide +kernel
set_option maxRecDepth 100000 in
theorem ck202 : chkT 202 = true := by decide +kernel
set_option maxRecDepth 100000 in
theorem ck203 : chkT 203 = true := by decide +kernel
set_option maxRecDepth 100000 in
theorem ck204 : chkT 204 = true := by decide +kernel
set_option maxRecDepth 100000 in
theorem ck205 : chkT 205 = true := by decide +kernel
set_option maxRecDepth 100000 in
theorem ck206 : chkT 206 = true := by decide +kernel
set_option maxRecDepth 100000 in
theorem ck207 : chkT 207 = true := by decide +kernel
set_option maxRecDepth 100000 in
theorem ck208 : chkT 208 = true := by decide +kernel
set_option maxRecDepth 100000 in
theorem ck209 : chkT 209 = true := by decide +kernel
set_option maxRecDepth 100000 in
theorem ck210 : chkT 210 = true := by decide +kernel
set_option maxRecDepth 100000 in
theorem ck211 : chkT 211 = true := by decide +kernel
set_option maxRecDepth 100000 in
theorem ck212 : chkT 212 = true := by decide +kernel
set_option maxRecDepth 100000 in
theorem ck213 : chkT 213 = true := by decide +kernel
set_option maxRecDepth 100000 in
theorem ck214 : chkT 214 = true := by decide +kernel
set_option maxRecDepth 100000 in
theorem ck215 : chkT 215 = true := by decide +kernel
set_option maxRecDepth 100000 in
theorem ck216 : chkT 216 = true := by decide +kernel
set_option maxRecDepth 100000 in
theorem ck217 : chkT 217 = true := by decide +kernel
set_option maxRecDepth 100000 in
theorem ck218 : chkT 218 = true := by decide +kernel
set_option maxRecDepth 100000 in
theorem ck219 : chkT 219 = true := by decide +kernel
set_option maxRecDepth 100000 in
theorem ck220 : chkT 220 = true := by decide +kernel
set_option maxRecDepth 100000 in
theorem ck221 : chkT 221 = true := by decide +kernel
set_option maxRecDepth 100000 in
theorem ck222 : chkT 222 = true := by decide +kernel
set_option maxRecDepth 100000 in
theorem ck223 : chkT 223 = true := by decide +kernel
set_option maxRecDepth 100000 in
theorem ck224 : chkT 224 = true := by decide +kernel
set_option maxRecDepth 100000 in
theorem ck225 : chkT 225 = true := by decide +kernel
set_option maxRecDepth 100000 in
theorem ck226 : chkT 226 = true := by decide +kernel
set_option maxRecDepth 100000 in
theorem ck227 : chkT 227 = true := by decide +kernel
set_option maxRecDepth 100000 in
theorem ck228 : chkT 228 = true := by decide +kernel
set_option maxRecDepth 100000 in
theorem ck229 : chkT 229 = true := by decide +kernel
set_option maxRecDepth 100000 in
theorem ck230 : chkT 230 = true := by decide +kernel
set_option maxRecDepth 100000 in
theorem ck231 : chkT 231 = true := by decide +kernel
set_option maxRecDepth 100000 in
theorem ck232 : chkT 232 = true := by decide +kernel
set_option maxRecDepth 100000 in
theorem ck233 : chkT 233 = true := by decide +kernel
set_option maxRecDepth 100000 in
theorem ck234 : chkT 234 = true := by decide +kernel
set_option maxRecDepth 100000 in
theorem ck235 : chkT 235 = true := by decide +kernel
set_option maxRecDepth 100000 in
theorem ck236 : chkT 236 = true := by decide +kernel
set_option maxRecDepth 100000 in
theorem ck237 : chkT 237 = true := by decide +kernel
set_option maxRecDepth 100000 in
theorem ck238 : chkT 238 = true := by decide +kernel
set_option maxRecDepth 100000 in
theorem ck239 : chkT 239 = true := by decide +kernel
